def g_Mo_isDay (p0 : Int32) : Int32 :=
  if p0 < 0 then
    0
  else
    if 10000 ≤ p0 then
      0
    else
      1
set_option maxHeartbeats 4000000 in
set_option maxRecDepth 100000 in
theorem c_Mo_isDay (l : Launch) (dC : Nat → ClassId) (dI : Nat → Nat → Nat) (adK adV : Nat → Nat) (p0 : Int32) : Met l y_M_isDay ws_M_isDay ({ frames := 0, cells := 0, slots := 0, locals := 0 }) (va_Pc [.int p0] (fun U => zz adK adV (fun _ => False) U ∧ va_P (dC, dI) vwCl [] U.heap ∧ va_K (dC, dI) vwCl [] U)) (vp_Si (fun r => r = g_Mo_isDay p0)) 0 0 (fun _ => False) := by
  refine Met.ofW (cc := c_M_isDay) (maxL := 1) (ret := (some .boolean)) (by decide) rfl ?_
  intro p e s m args below meth c s₁ B hml hv
  obtain ⟨rfl, hZ, hP, hK⟩ := hv
  have hx := B.exec
  have hb := B.bytes
  have hr := B.returns
  have hts0 := atoms_spec (ws := ws_M_isDay) B.pre
  have hts : ∀ w ∈ TT, w.before _ s = true := fun w h => hts0 w (List.mem_cons_of_mem _ h)
  have hown : s.vm.findClass "LoanRulesModel" = some m.cls := findClass_of_methodNamed B.named
  have hlocks := B.notSynchronized
  have hS : va_S (fun _ => False) s.heap s.heap [] := va_S.rf
  replace hP : va_P (dC, dI) vwCl [] s.heap := hP
  have hl := lv_entry ([.int p0]) (n := 1) (Nat.le_of_ble_eq_true rfl)
  rw [lg_entry_eq]
  generalize (lg_sl ([.int p0]) ++ List.replicate (1 - (lg_sl ([.int p0])).length) Slot.unset).toArray = ls at hl ⊢
  replace hl : lv_has ls 1 [(0, .int p0)] := hl
  obtain ⟨z, hz⟩ : ∃ z, z = g_Mo_isDay p0 := ⟨_, rfl⟩
  have hE := hz
  rw [g_Mo_isDay] at hE
  refine lv_iload_n hx hb d_M_isDay_0 rfl (lv_at hl 0 rfl) ?_
  refine lv_if_lt (tgt := 15) hx hb d_M_isDay_1 (by decide) (fun c_1 => ?_) (fun c_1 => ?_)
  · rw [if_pos c_1] at hE
    refine lv_iconst (v := 0) hx hb d_M_isDay_15 (by decide) ?_
    exact W.zret (v := 0) hx hb hr rfl (fun t ht hW => ⟨0, rfl, hE.symm.trans hz, ht⟩) (fun _ h => by cases h) d_M_isDay_16
  · rw [if_neg c_1] at hE
    refine lv_iload_n hx hb d_M_isDay_4 rfl (lv_at hl 0 rfl) ?_
    refine lv_sipush (v := 10000) hx hb d_M_isDay_5 (by decide) ?_
    refine lv_icmp_ge (tgt := 15) hx hb d_M_isDay_8 (by decide) (fun c_2 => ?_) (fun c_2 => ?_)
    · rw [if_pos c_2] at hE
      refine lv_iconst (v := 0) hx hb d_M_isDay_15 (by decide) ?_
      exact W.zret (v := 0) hx hb hr rfl (fun t ht hW => ⟨0, rfl, hE.symm.trans hz, ht⟩) (fun _ h => by cases h) d_M_isDay_16
    · rw [if_neg c_2] at hE
      refine lv_iconst (v := 1) hx hb d_M_isDay_11 (by decide) ?_
      refine lv_goto (tgt := 16) hx hb d_M_isDay_12 (by decide) ?_
      exact W.zret (v := 1) hx hb hr rfl (fun t ht hW => ⟨1, rfl, hE.symm.trans hz, ht⟩) (fun _ h => by cases h) d_M_isDay_16
def g_Mo_isPerson (p0 : Int32) : Int32 :=
  if p0 < 0 then
    0
  else
    if 50 ≤ p0 then
      0
    else
      1
set_option maxHeartbeats 4000000 in
set_option maxRecDepth 100000 in
theorem c_Mo_isPerson (l : Launch) (dC : Nat → ClassId) (dI : Nat → Nat → Nat) (adK adV : Nat → Nat) (p0 : Int32) : Met l y_M_isPerson ws_M_isPerson ({ frames := 0, cells := 0, slots := 0, locals := 0 }) (va_Pc [.int p0] (fun U => zz adK adV (fun _ => False) U ∧ va_P (dC, dI) vwCl [] U.heap ∧ va_K (dC, dI) vwCl [] U)) (vp_Si (fun r => r = g_Mo_isPerson p0)) 0 0 (fun _ => False) := by
  refine Met.ofW (cc := c_M_isPerson) (maxL := 1) (ret := (some .boolean)) (by decide) rfl ?_
  intro p e s m args below meth c s₁ B hml hv
  obtain ⟨rfl, hZ, hP, hK⟩ := hv
  have hx := B.exec
  have hb := B.bytes
  have hr := B.returns
  have hts0 := atoms_spec (ws := ws_M_isPerson) B.pre
  have hts : ∀ w ∈ TT, w.before _ s = true := fun w h => hts0 w (List.mem_cons_of_mem _ h)
  have hown : s.vm.findClass "LoanRulesModel" = some m.cls := findClass_of_methodNamed B.named
  have hlocks := B.notSynchronized
  have hS : va_S (fun _ => False) s.heap s.heap [] := va_S.rf
  replace hP : va_P (dC, dI) vwCl [] s.heap := hP
  have hl := lv_entry ([.int p0]) (n := 1) (Nat.le_of_ble_eq_true rfl)
  rw [lg_entry_eq]
  generalize (lg_sl ([.int p0]) ++ List.replicate (1 - (lg_sl ([.int p0])).length) Slot.unset).toArray = ls at hl ⊢
  replace hl : lv_has ls 1 [(0, .int p0)] := hl
  obtain ⟨z, hz⟩ : ∃ z, z = g_Mo_isPerson p0 := ⟨_, rfl⟩
  have hE := hz
  rw [g_Mo_isPerson] at hE
  refine lv_iload_n hx hb d_M_isPerson_0 rfl (lv_at hl 0 rfl) ?_
  refine lv_if_lt (tgt := 14) hx hb d_M_isPerson_1 (by decide) (fun c_1 => ?_) (fun c_1 => ?_)
  · rw [if_pos c_1] at hE
    refine lv_iconst (v := 0) hx hb d_M_isPerson_14 (by decide) ?_
    exact W.zret (v := 0) hx hb hr rfl (fun t ht hW => ⟨0, rfl, hE.symm.trans hz, ht⟩) (fun _ h => by cases h) d_M_isPerson_15
  · rw [if_neg c_1] at hE
    refine lv_iload_n hx hb d_M_isPerson_4 rfl (lv_at hl 0 rfl) ?_
    refine lv_bipush (v := 50) hx hb d_M_isPerson_5 (by decide) ?_
    refine lv_icmp_ge (tgt := 14) hx hb d_M_isPerson_7 (by decide) (fun c_2 => ?_) (fun c_2 => ?_)
    · rw [if_pos c_2] at hE
      refine lv_iconst (v := 0) hx hb d_M_isPerson_14 (by decide) ?_
      exact W.zret (v := 0) hx hb hr rfl (fun t ht hW => ⟨0, rfl, hE.symm.trans hz, ht⟩) (fun _ h => by cases h) d_M_isPerson_15
    · rw [if_neg c_2] at hE
      refine lv_iconst (v := 1) hx hb d_M_isPerson_10 (by decide) ?_
      refine lv_goto (tgt := 15) hx hb d_M_isPerson_11 (by decide) ?_
      exact W.zret (v := 1) hx hb hr rfl (fun t ht hW => ⟨1, rfl, hE.symm.trans hz, ht⟩) (fun _ h => by cases h) d_M_isPerson_15
theorem in_personM {x : Int32} (h : ¬ g_Mo_isPerson x = 0) : vp_in x 50 := by
  unfold g_Mo_isPerson at h
  split at h
  · exact absurd rfl h
  · split at h
    · exact absurd rfl h
    · exact lk_in 50 (by decide) (by assumption) (by assumption)
theorem in_dayM {x : Int32} (h : ¬ g_Mo_isDay x = 0) : vp_in x 10000 := by
  unfold g_Mo_isDay at h
  split at h
  · exact absurd rfl h
  · split at h
    · exact absurd rfl h
    · exact lk_in 10000 (by decide) (by assumption) (by assumption)
set_option maxHeartbeats 4000000 in
set_option maxRecDepth 100000 in
theorem c_Mo_init (l : Launch) (dC : Nat → ClassId) (dI : Nat → Nat → Nat) (adK adV : Nat → Nat) (a_m : Nat) (sz : Nat) : Met l y_M_init ws_M_init ({ frames := 1, cells := 14, slots := 25857, locals := 12 }) (va_Pc [.ref a_m] (fun U => U.heap.size = sz ∧ zz adK adV (va_A [(a_m, .inr (5, [.int 0, .null, .int 0, .int 0, .int 0, .null, .null, .null, .int 0, .null, .null, .null, .null, .null, .null, .null, .int 0, .null, .null, .int 0, .null, .int 0]))] sz) U ∧ va_P (dC, dI) vwCl [(a_m, .inr (5, [.int 0, .null, .int 0, .int 0, .int 0, .null, .null, .null, .int 0, .null, .null, .null, .null, .null, .null, .null, .int 0, .null, .null, .int 0, .null, .int 0]))] U.heap ∧ va_K (dC, dI) vwCl [] U ∧ va_D (fun _ => True) [(a_m, .inr (5, [.int 0, .null, .int 0, .int 0, .int 0, .null, .null, .null, .int 0, .null, .null, .null, .null, .null, .null, .null, .int 0, .null, .null, .int 0, .null, .int 0]))])) (va_Qv (fun _ : Unit => True) (fun (_ : Unit) (t : State) => ∃ q_1 : Nat, ∃ q_3 : Nat, ∃ q_5 : Nat, ∃ q_7 : Nat, ∃ q_9 : Nat, ∃ q_11 : Nat, ∃ q_13 : Nat, ∃ q_15 : Nat, ∃ q_17 : Nat, ∃ q_19 : Nat, ∃ q_21 : Nat, ∃ q_23 : Nat, ∃ q_25 : Nat, ∃ q_27 : Nat, ∃ cA_2 : ClassId, ∃ cA_4 : ClassId, ∃ cA_6 : ClassId, ∃ cA_8 : ClassId, ∃ cA_10 : ClassId, ∃ cA_12 : ClassId, ∃ cA_14 : ClassId, ∃ cA_16 : ClassId, ∃ cA_18 : ClassId, ∃ cA_20 : ClassId, ∃ cA_22 : ClassId, ∃ cA_24 : ClassId, ∃ cA_26 : ClassId, ∃ cA_28 : ClassId, va_P (dC, dI) vwCl [(a_m, .inr (5, [.int 0, .ref q_1, .int 0, .int 0, .int 0, .ref q_3, .ref q_5, .ref q_7, .int 0, .ref q_9, .ref q_11, .ref q_13, .ref q_15, .ref q_17, .ref q_19, .ref q_21, .int 0, .ref q_23, .ref q_25, .int 0, .ref q_27, .int 0])), (q_1, .inl (cA_2, 120, .inl (fun _ => 0))), (q_3, .inl (cA_4, 410, .inl (fun _ => 0))), (q_5, .inl (cA_6, 40, .inl (fun _ => 0))), (q_7, .inl (cA_8, 40, .inl (fun _ => 0))), (q_9, .inl (cA_10, 10000, .inl (fun _ => 0))), (q_11, .inl (cA_12, 10000, .inl (fun _ => 0))), (q_13, .inl (cA_14, 50, .inl (fun _ => 0))), (q_15, .inl (cA_16, 50, .inl (fun _ => 0))), (q_17, .inl (cA_18, 50, .inl (fun _ => 0))), (q_19, .inl (cA_20, 2000, .inl (fun _ => 0))), (q_21, .inl (cA_22, 1407, .inl (fun _ => 0))), (q_23, .inl (cA_24, 50, .inl (fun _ => 0))), (q_25, .inl (cA_26, 40, .inl (fun _ => 0))), (q_27, .inl (cA_28, 1600, .inl (fun _ => 0)))] t.heap ∧ va_K (dC, dI) vwCl [(cA_2, .byte), (cA_4, .int), (cA_6, .boolean), (cA_8, .boolean), (cA_10, .boolean), (cA_12, .boolean), (cA_14, .int), (cA_16, .int), (cA_18, .int), (cA_20, .int), (cA_22, .int), (cA_24, .int), (cA_26, .int), (cA_28, .int)] t ∧ va_D (va_A [(a_m, .inr (5, [.int 0, .null, .int 0, .int 0, .int 0, .null, .null, .null, .int 0, .null, .null, .null, .null, .null, .null, .null, .int 0, .null, .null, .int 0, .null, .int 0]))] sz) [(a_m, .inr (5, [.int 0, .ref q_1, .int 0, .int 0, .int 0, .ref q_3, .ref q_5, .ref q_7, .int 0, .ref q_9, .ref q_11, .ref q_13, .ref q_15, .ref q_17, .ref q_19, .ref q_21, .int 0, .ref q_23, .ref q_25, .int 0, .ref q_27, .int 0])), (q_1, .inl (cA_2, 120, .inl (fun _ => 0))), (q_3, .inl (cA_4, 410, .inl (fun _ => 0))), (q_5, .inl (cA_6, 40, .inl (fun _ => 0))), (q_7, .inl (cA_8, 40, .inl (fun _ => 0))), (q_9, .inl (cA_10, 10000, .inl (fun _ => 0))), (q_11, .inl (cA_12, 10000, .inl (fun _ => 0))), (q_13, .inl (cA_14, 50, .inl (fun _ => 0))), (q_15, .inl (cA_16, 50, .inl (fun _ => 0))), (q_17, .inl (cA_18, 50, .inl (fun _ => 0))), (q_19, .inl (cA_20, 2000, .inl (fun _ => 0))), (q_21, .inl (cA_22, 1407, .inl (fun _ => 0))), (q_23, .inl (cA_24, 50, .inl (fun _ => 0))), (q_25, .inl (cA_26, 40, .inl (fun _ => 0))), (q_27, .inl (cA_28, 1600, .inl (fun _ => 0)))]) (va_A [(a_m, .inr (5, [.int 0, .null, .int 0, .int 0, .int 0, .null, .null, .null, .int 0, .null, .null, .null, .null, .null, .null, .null, .int 0, .null, .null, .int 0, .null, .int 0]))] sz)) 14 25857 (va_A [(a_m, .inr (5, [.int 0, .null, .int 0, .int 0, .int 0, .null, .null, .null, .int 0, .null, .null, .null, .null, .null, .null, .null, .int 0, .null, .null, .int 0, .null, .int 0]))] sz) := by
  refine Met.ofW (cc := c_M_init) (maxL := 1) (ret := none) (by decide) rfl ?_
  intro p e s m args below meth c s₁ B hml hv
  obtain ⟨rfl, hsz, hZ, hP, hK, hD0⟩ := hv
  have hx := B.exec
  have hb := B.bytes
  have hr := B.returns
  have hts0 := atoms_spec (ws := ws_M_init) B.pre
  have hts : ∀ w ∈ TT, w.before _ s = true := fun w h => hts0 w (List.mem_cons_of_mem _ h)
  have hown : s.vm.findClass "LoanRulesModel" = some m.cls := findClass_of_methodNamed B.named
  have hlocks := B.notSynchronized
  have hin : meth.name = "<init>" := (name_of_methodNamed B.named B.method).1
  subst hsz
  have hD := hD0.self (sz := s.heap.size)
  generalize hAe : va_A [(a_m, .inr (5, [.int 0, .null, .int 0, .int 0, .int 0, .null, .null, .null, .int 0, .null, .null, .null, .null, .null, .null, .null, .int 0, .null, .null, .int 0, .null, .int 0]))] s.heap.size = A at hD hZ ⊢
  have hA : ∀ q : Nat, s.heap.size ≤ q → A q := fun q h => by rw [← hAe]; exact Or.inr h
  clear hAe hD0
  have hS : va_S A s.heap s.heap [] := va_S.rf
  replace hP : va_P (dC, dI) vwCl [(a_m, .inr (5, [.int 0, .null, .int 0, .int 0, .int 0, .null, .null, .null, .int 0, .null, .null, .null, .null, .null, .null, .null, .int 0, .null, .null, .int 0, .null, .int 0]))] s.heap := hP
  have hl := lv_entry ([.ref a_m]) (n := 1) (Nat.le_of_ble_eq_true rfl)
  rw [lg_entry_eq]
  generalize (lg_sl ([.ref a_m]) ++ List.replicate (1 - (lg_sl ([.ref a_m])).length) Slot.unset).toArray = ls at hl ⊢
  replace hl : lv_has ls 1 [(0, .ref a_m)] := hl
  refine lv_aload_n hx hb d_M_init_0 rfl (lv_at hl 0 rfl) ?_
  refine W.objInit hx hb hown (hts _ tw_600) (hts _ tw_64) (hts _ tw_65) rfl (by rw [hml]; exact hl.1) rfl d_M_init_1 (Nat.le_of_ble_eq_true rfl) (Nat.le_of_ble_eq_true rfl) ?_
  refine W.eq (g2 := F0 m 4 ls []) rfl ?_
  refine lv_aload_n hx hb d_M_init_4 rfl (lv_at hl 0 rfl) ?_
  refine lv_bipush (v := 120) hx hb d_M_init_5 (by decide) ?_
  refine va_newa (D := (dC, dI)) (atype := .byte) (ty := .byte) (N' := 120) (a0 := (120, .inl (fun _ => 0))) hx hb (hts _ tw_347) rfl hK hP hD hS hA (fun _ => rfl) (by decide) (by decide) (by decide) (Nat.le_of_ble_eq_true rfl) (Nat.le_of_ble_eq_true rfl) d_M_init_7 (fun q_1 cA_2 H hK hP hD hS => ?_)
  refine W.widen (k := 1) (n := 120) (by omega) (by omega) ?_
  replace hP : va_P (dC, dI) vwCl [(a_m, .inr (5, [.int 0, .null, .int 0, .int 0, .int 0, .null, .null, .null, .int 0, .null, .null, .null, .null, .null, .null, .null, .int 0, .null, .null, .int 0, .null, .int 0])), (q_1, .inl (cA_2, 120, .inl (fun _ => 0)))] H := hP
  replace hD : va_D A [(a_m, .inr (5, [.int 0, .null, .int 0, .int 0, .int 0, .null, .null, .null, .int 0, .null, .null, .null, .null, .null, .null, .null, .int 0, .null, .null, .int 0, .null, .int 0])), (q_1, .inl (cA_2, 120, .inl (fun _ => 0)))] := hD
  replace hK : va_K (dC, dI) vwCl [(cA_2, .byte)] s := hK
  refine va_putF (D := (dC, dI)) (ci := 5) (v := .ref q_1) (ty := (.array .byte)) (C := "LoanRulesModel") (T := Fz_M) (N := 22) hx hb hts it_M tz_M tz_M_ok nz_M hown hK hP hD hS 0 rfl rfl 1 (by decide) (hts _ tw_602) (fun _ h9 => h9) rfl hin rfl (by decide +kernel) rfl rfl (Nat.le_of_ble_eq_true rfl) d_M_init_9 (fun H locs hP hD hS => ?_)
  replace hP : va_P (dC, dI) vwCl [(a_m, .inr (5, [.int 0, .ref q_1, .int 0, .int 0, .int 0, .null, .null, .null, .int 0, .null, .null, .null, .null, .null, .null, .null, .int 0, .null, .null, .int 0, .null, .int 0])), (q_1, .inl (cA_2, 120, .inl (fun _ => 0)))] H := hP
  replace hD : va_D A [(a_m, .inr (5, [.int 0, .ref q_1, .int 0, .int 0, .int 0, .null, .null, .null, .int 0, .null, .null, .null, .null, .null, .null, .null, .int 0, .null, .null, .int 0, .null, .int 0])), (q_1, .inl (cA_2, 120, .inl (fun _ => 0)))] := hD
  refine lv_aload_n hx hb d_M_init_12 rfl (lv_at hl 0 rfl) ?_
  refine lv_sipush (v := 410) hx hb d_M_init_13 (by decide) ?_
  refine va_newa (D := (dC, dI)) (atype := .int) (ty := .int) (N' := 410) (a0 := (410, .inl (fun _ => 0))) hx hb (hts _ tw_153) rfl hK hP hD hS hA (fun _ => rfl) (by decide) (by decide) (by decide) (Nat.le_of_ble_eq_true rfl) (Nat.le_of_ble_eq_true rfl) d_M_init_16 (fun q_3 cA_4 H hK hP hD hS => ?_)
  refine W.widen (k := 2) (n := 530) (by omega) (by omega) ?_
  replace hP : va_P (dC, dI) vwCl [(a_m, .inr (5, [.int 0, .ref q_1, .int 0, .int 0, .int 0, .null, .null, .null, .int 0, .null, .null, .null, .null, .null, .null, .null, .int 0, .null, .null, .int 0, .null, .int 0])), (q_1, .inl (cA_2, 120, .inl (fun _ => 0))), (q_3, .inl (cA_4, 410, .inl (fun _ => 0)))] H := hP
  replace hD : va_D A [(a_m, .inr (5, [.int 0, .ref q_1, .int 0, .int 0, .int 0, .null, .null, .null, .int 0, .null, .null, .null, .null, .null, .null, .null, .int 0, .null, .null, .int 0, .null, .int 0])), (q_1, .inl (cA_2, 120, .inl (fun _ => 0))), (q_3, .inl (cA_4, 410, .inl (fun _ => 0)))] := hD
  replace hK : va_K (dC, dI) vwCl [(cA_2, .byte), (cA_4, .int)] s := hK
  refine va_putF (D := (dC, dI)) (ci := 5) (v := .ref q_3) (ty := (.array .int)) (C := "LoanRulesModel") (T := Fz_M) (N := 22) hx hb hts it_M tz_M tz_M_ok nz_M hown hK hP hD hS 0 rfl rfl 5 (by decide) (hts _ tw_606) (fun _ h9 => h9) rfl hin rfl (by decide +kernel) rfl rfl (Nat.le_of_ble_eq_true rfl) d_M_init_18 (fun H locs hP hD hS => ?_)
  replace hP : va_P (dC, dI) vwCl [(a_m, .inr (5, [.int 0, .ref q_1, .int 0, .int 0, .int 0, .ref q_3, .null, .null, .int 0, .null, .null, .null, .null, .null, .null, .null, .int 0, .null, .null, .int 0, .null, .int 0])), (q_1, .inl (cA_2, 120, .inl (fun _ => 0))), (q_3, .inl (cA_4, 410, .inl (fun _ => 0)))] H := hP
  replace hD : va_D A [(a_m, .inr (5, [.int 0, .ref q_1, .int 0, .int 0, .int 0, .ref q_3, .null, .null, .int 0, .null, .null, .null, .null, .null, .null, .null, .int 0, .null, .null, .int 0, .null, .int 0])), (q_1, .inl (cA_2, 120, .inl (fun _ => 0))), (q_3, .inl (cA_4, 410, .inl (fun _ => 0)))] := hD
  refine lv_aload_n hx hb d_M_init_21 rfl (lv_at hl 0 rfl) ?_
  refine lv_bipush (v := 40) hx hb d_M_init_22 (by decide) ?_
  refine va_newa (D := (dC, dI)) (atype := .boolean) (ty := .boolean) (N' := 40) (a0 := (40, .inl (fun _ => 0))) hx hb (hts _ tw_154) rfl hK hP hD hS hA (fun _ => rfl) (by decide) (by decide) (by decide) (Nat.le_of_ble_eq_true rfl) (Nat.le_of_ble_eq_true rfl) d_M_init_24 (fun q_5 cA_6 H hK hP hD hS => ?_)
  refine W.widen (k := 3) (n := 570) (by omega) (by omega) ?_
  replace hP : va_P (dC, dI) vwCl [(a_m, .inr (5, [.int 0, .ref q_1, .int 0, .int 0, .int 0, .ref q_3, .null, .null, .int 0, .null, .null, .null, .null, .null, .null, .null, .int 0, .null, .null, .int 0, .null, .int 0])), (q_1, .inl (cA_2, 120, .inl (fun _ => 0))), (q_3, .inl (cA_4, 410, .inl (fun _ => 0))), (q_5, .inl (cA_6, 40, .inl (fun _ => 0)))] H := hP
  replace hD : va_D A [(a_m, .inr (5, [.int 0, .ref q_1, .int 0, .int 0, .int 0, .ref q_3, .null, .null, .int 0, .null, .null, .null, .null, .null, .null, .null, .int 0, .null, .null, .int 0, .null, .int 0])), (q_1, .inl (cA_2, 120, .inl (fun _ => 0))), (q_3, .inl (cA_4, 410, .inl (fun _ => 0))), (q_5, .inl (cA_6, 40, .inl (fun _ => 0)))] := hD
  replace hK : va_K (dC, dI) vwCl [(cA_2, .byte), (cA_4, .int), (cA_6, .boolean)] s := hK
  refine va_putF (D := (dC, dI)) (ci := 5) (v := .ref q_5) (ty := (.array .boolean)) (C := "LoanRulesModel") (T := Fz_M) (N := 22) hx hb hts it_M tz_M tz_M_ok nz_M hown hK hP hD hS 0 rfl rfl 6 (by decide) (hts _ tw_607) (fun _ h9 => h9) rfl hin rfl (by decide +kernel) rfl rfl (Nat.le_of_ble_eq_true rfl) d_M_init_26 (fun H locs hP hD hS => ?_)
  replace hP : va_P (dC, dI) vwCl [(a_m, .inr (5, [.int 0, .ref q_1, .int 0, .int 0, .int 0, .ref q_3, .ref q_5, .null, .int 0, .null, .null, .null, .null, .null, .null, .null, .int 0, .null, .null, .int 0, .null, .int 0])), (q_1, .inl (cA_2, 120, .inl (fun _ => 0))), (q_3, .inl (cA_4, 410, .inl (fun _ => 0))), (q_5, .inl (cA_6, 40, .inl (fun _ => 0)))] H := hP
  replace hD : va_D A [(a_m, .inr (5, [.int 0, .ref q_1, .int 0, .int 0, .int 0, .ref q_3, .ref q_5, .null, .int 0, .null, .null, .null, .null, .null, .null, .null, .int 0, .null, .null, .int 0, .null, .int 0])), (q_1, .inl (cA_2, 120, .inl (fun _ => 0))), (q_3, .inl (cA_4, 410, .inl (fun _ => 0))), (q_5, .inl (cA_6, 40, .inl (fun _ => 0)))] := hD
  refine lv_aload_n hx hb d_M_init_29 rfl (lv_at hl 0 rfl) ?_
  refine lv_bipush (v := 40) hx hb d_M_init_30 (by decide) ?_
  refine va_newa (D := (dC, dI)) (atype := .boolean) (ty := .boolean) (N' := 40) (a0 := (40, .inl (fun _ => 0))) hx hb (hts _ tw_154) rfl hK hP hD hS hA (fun _ => rfl) (by decide) (by decide) (by decide) (Nat.le_of_ble_eq_true rfl) (Nat.le_of_ble_eq_true rfl) d_M_init_32 (fun q_7 cA_8 H hK hP hD hS => ?_)
  refine W.widen (k := 4) (n := 610) (by omega) (by omega) ?_
  replace hP : va_P (dC, dI) vwCl [(a_m, .inr (5, [.int 0, .ref q_1, .int 0, .int 0, .int 0, .ref q_3, .ref q_5, .null, .int 0, .null, .null, .null, .null, .null, .null, .null, .int 0, .null, .null, .int 0, .null, .int 0])), (q_1, .inl (cA_2, 120, .inl (fun _ => 0))), (q_3, .inl (cA_4, 410, .inl (fun _ => 0))), (q_5, .inl (cA_6, 40, .inl (fun _ => 0))), (q_7, .inl (cA_8, 40, .inl (fun _ => 0)))] H := hP
  replace hD : va_D A [(a_m, .inr (5, [.int 0, .ref q_1, .int 0, .int 0, .int 0, .ref q_3, .ref q_5, .null, .int 0, .null, .null, .null, .null, .null, .null, .null, .int 0, .null, .null, .int 0, .null, .int 0])), (q_1, .inl (cA_2, 120, .inl (fun _ => 0))), (q_3, .inl (cA_4, 410, .inl (fun _ => 0))), (q_5, .inl (cA_6, 40, .inl (fun _ => 0))), (q_7, .inl (cA_8, 40, .inl (fun _ => 0)))] := hD
  replace hK : va_K (dC, dI) vwCl [(cA_2, .byte), (cA_4, .int), (cA_6, .boolean), (cA_8, .boolean)] s := hK
  refine va_putF (D := (dC, dI)) (ci := 5) (v := .ref q_7) (ty := (.array .boolean)) (C := "LoanRulesModel") (T := Fz_M) (N := 22) hx hb hts it_M tz_M tz_M_ok nz_M hown hK hP hD hS 0 rfl rfl 7 (by decide) (hts _ tw_608) (fun _ h9 => h9) rfl hin rfl (by decide +kernel) rfl rfl (Nat.le_of_ble_eq_true rfl) d_M_init_34 (fun H locs hP hD hS => ?_)
  replace hP : va_P (dC, dI) vwCl [(a_m, .inr (5, [.int 0, .ref q_1, .int 0, .int 0, .int 0, .ref q_3, .ref q_5, .ref q_7, .int 0, .null, .null, .null, .null, .null, .null, .null, .int 0, .null, .null, .int 0, .null, .int 0])), (q_1, .inl (cA_2, 120, .inl (fun _ => 0))), (q_3, .inl (cA_4, 410, .inl (fun _ => 0))), (q_5, .inl (cA_6, 40, .inl (fun _ => 0))), (q_7, .inl (cA_8, 40, .inl (fun _ => 0)))] H := hP
  replace hD : va_D A [(a_m, .inr (5, [.int 0, .ref q_1, .int 0, .int 0, .int 0, .ref q_3, .ref q_5, .ref q_7, .int 0, .null, .null, .null, .null, .null, .null, .null, .int 0, .null, .null, .int 0, .null, .int 0])), (q_1, .inl (cA_2, 120, .inl (fun _ => 0))), (q_3, .inl (cA_4, 410, .inl (fun _ => 0))), (q_5, .inl (cA_6, 40, .inl (fun _ => 0))), (q_7, .inl (cA_8, 40, .inl (fun _ => 0)))] := hD
  refine lv_aload_n hx hb d_M_init_37 rfl (lv_at hl 0 rfl) ?_
  refine lv_sipush (v := 10000) hx hb d_M_init_38 (by decide) ?_
  refine va_newa (D := (dC, dI)) (atype := .boolean) (ty := .boolean) (N' := 10000) (a0 := (10000, .inl (fun _ => 0))) hx hb (hts _ tw_154) rfl hK hP hD hS hA (fun _ => rfl) (by decide) (by decide) (by decide) (Nat.le_of_ble_eq_true rfl) (Nat.le_of_ble_eq_true rfl) d_M_init_41 (fun q_9 cA_10 H hK hP hD hS => ?_)
  refine W.widen (k := 5) (n := 10610) (by omega) (by omega) ?_
  replace hP : va_P (dC, dI) vwCl [(a_m, .inr (5, [.int 0, .ref q_1, .int 0, .int 0, .int 0, .ref q_3, .ref q_5, .ref q_7, .int 0, .null, .null, .null, .null, .null, .null, .null, .int 0, .null, .null, .int 0, .null, .int 0])), (q_1, .inl (cA_2, 120, .inl (fun _ => 0))), (q_3, .inl (cA_4, 410, .inl (fun _ => 0))), (q_5, .inl (cA_6, 40, .inl (fun _ => 0))), (q_7, .inl (cA_8, 40, .inl (fun _ => 0))), (q_9, .inl (cA_10, 10000, .inl (fun _ => 0)))] H := hP
  replace hD : va_D A [(a_m, .inr (5, [.int 0, .ref q_1, .int 0, .int 0, .int 0, .ref q_3, .ref q_5, .ref q_7, .int 0, .null, .null, .null, .null, .null, .null, .null, .int 0, .null, .null, .int 0, .null, .int 0])), (q_1, .inl (cA_2, 120, .inl (fun _ => 0))), (q_3, .inl (cA_4, 410, .inl (fun _ => 0))), (q_5, .inl (cA_6, 40, .inl (fun _ => 0))), (q_7, .inl (cA_8, 40, .inl (fun _ => 0))), (q_9, .inl (cA_10, 10000, .inl (fun _ => 0)))] := hD
  replace hK : va_K (dC, dI) vwCl [(cA_2, .byte), (cA_4, .int), (cA_6, .boolean), (cA_8, .boolean), (cA_10, .boolean)] s := hK
  refine va_putF (D := (dC, dI)) (ci := 5) (v := .ref q_9) (ty := (.array .boolean)) (C := "LoanRulesModel") (T := Fz_M) (N := 22) hx hb hts it_M tz_M tz_M_ok nz_M hown hK hP hD hS 0 rfl rfl 9 (by decide) (hts _ tw_610) (fun _ h9 => h9) rfl hin rfl (by decide +kernel) rfl rfl (Nat.le_of_ble_eq_true rfl) d_M_init_43 (fun H locs hP hD hS => ?_)
  replace hP : va_P (dC, dI) vwCl [(a_m, .inr (5, [.int 0, .ref q_1, .int 0, .int 0, .int 0, .ref q_3, .ref q_5, .ref q_7, .int 0, .ref q_9, .null, .null, .null, .null, .null, .null, .int 0, .null, .null, .int 0, .null, .int 0])), (q_1, .inl (cA_2, 120, .inl (fun _ => 0))), (q_3, .inl (cA_4, 410, .inl (fun _ => 0))), (q_5, .inl (cA_6, 40, .inl (fun _ => 0))), (q_7, .inl (cA_8, 40, .inl (fun _ => 0))), (q_9, .inl (cA_10, 10000, .inl (fun _ => 0)))] H := hP
  replace hD : va_D A [(a_m, .inr (5, [.int 0, .ref q_1, .int 0, .int 0, .int 0, .ref q_3, .ref q_5, .ref q_7, .int 0, .ref q_9, .null, .null, .null, .null, .null, .null, .int 0, .null, .null, .int 0, .null, .int 0])), (q_1, .inl (cA_2, 120, .inl (fun _ => 0))), (q_3, .inl (cA_4, 410, .inl (fun _ => 0))), (q_5, .inl (cA_6, 40, .inl (fun _ => 0))), (q_7, .inl (cA_8, 40, .inl (fun _ => 0))), (q_9, .inl (cA_10, 10000, .inl (fun _ => 0)))] := hD
  refine lv_aload_n hx hb d_M_init_46 rfl (lv_at hl 0 rfl) ?_
  refine lv_sipush (v := 10000) hx hb d_M_init_47 (by decide) ?_
  refine va_newa (D := (dC, dI)) (atype := .boolean) (ty := .boolean) (N' := 10000) (a0 := (10000, .inl (fun _ => 0))) hx hb (hts _ tw_154) rfl hK hP hD hS hA (fun _ => rfl) (by decide) (by decide) (by decide) (Nat.le_of_ble_eq_true rfl) (Nat.le_of_ble_eq_true rfl) d_M_init_50 (fun q_11 cA_12 H hK hP hD hS => ?_)
  refine W.widen (k := 6) (n := 20610) (by omega) (by omega) ?_
  replace hP : va_P (dC, dI) vwCl [(a_m, .inr (5, [.int 0, .ref q_1, .int 0, .int 0, .int 0, .ref q_3, .ref q_5, .ref q_7, .int 0, .ref q_9, .null, .null, .null, .null, .null, .null, .int 0, .null, .null, .int 0, .null, .int 0])), (q_1, .inl (cA_2, 120, .inl (fun _ => 0))), (q_3, .inl (cA_4, 410, .inl (fun _ => 0))), (q_5, .inl (cA_6, 40, .inl (fun _ => 0))), (q_7, .inl (cA_8, 40, .inl (fun _ => 0))), (q_9, .inl (cA_10, 10000, .inl (fun _ => 0))), (q_11, .inl (cA_12, 10000, .inl (fun _ => 0)))] H := hP
  replace hD : va_D A [(a_m, .inr (5, [.int 0, .ref q_1, .int 0, .int 0, .int 0, .ref q_3, .ref q_5, .ref q_7, .int 0, .ref q_9, .null, .null, .null, .null, .null, .null, .int 0, .null, .null, .int 0, .null, .int 0])), (q_1, .inl (cA_2, 120, .inl (fun _ => 0))), (q_3, .inl (cA_4, 410, .inl (fun _ => 0))), (q_5, .inl (cA_6, 40, .inl (fun _ => 0))), (q_7, .inl (cA_8, 40, .inl (fun _ => 0))), (q_9, .inl (cA_10, 10000, .inl (fun _ => 0))), (q_11, .inl (cA_12, 10000, .inl (fun _ => 0)))] := hD
  replace hK : va_K (dC, dI) vwCl [(cA_2, .byte), (cA_4, .int), (cA_6, .boolean), (cA_8, .boolean), (cA_10, .boolean), (cA_12, .boolean)] s := hK
  refine va_putF (D := (dC, dI)) (ci := 5) (v := .ref q_11) (ty := (.array .boolean)) (C := "LoanRulesModel") (T := Fz_M) (N := 22) hx hb hts it_M tz_M tz_M_ok nz_M hown hK hP hD hS 0 rfl rfl 10 (by decide) (hts _ tw_611) (fun _ h9 => h9) rfl hin rfl (by decide +kernel) rfl rfl (Nat.le_of_ble_eq_true rfl) d_M_init_52 (fun H locs hP hD hS => ?_)
  replace hP : va_P (dC, dI) vwCl [(a_m, .inr (5, [.int 0, .ref q_1, .int 0, .int 0, .int 0, .ref q_3, .ref q_5, .ref q_7, .int 0, .ref q_9, .ref q_11, .null, .null, .null, .null, .null, .int 0, .null, .null, .int 0, .null, .int 0])), (q_1, .inl (cA_2, 120, .inl (fun _ => 0))), (q_3, .inl (cA_4, 410, .inl (fun _ => 0))), (q_5, .inl (cA_6, 40, .inl (fun _ => 0))), (q_7, .inl (cA_8, 40, .inl (fun _ => 0))), (q_9, .inl (cA_10, 10000, .inl (fun _ => 0))), (q_11, .inl (cA_12, 10000, .inl (fun _ => 0)))] H := hP
  replace hD : va_D A [(a_m, .inr (5, [.int 0, .ref q_1, .int 0, .int 0, .int 0, .ref q_3, .ref q_5, .ref q_7, .int 0, .ref q_9, .ref q_11, .null, .null, .null, .null, .null, .int 0, .null, .null, .int 0, .null, .int 0])), (q_1, .inl (cA_2, 120, .inl (fun _ => 0))), (q_3, .inl (cA_4, 410, .inl (fun _ => 0))), (q_5, .inl (cA_6, 40, .inl (fun _ => 0))), (q_7, .inl (cA_8, 40, .inl (fun _ => 0))), (q_9, .inl (cA_10, 10000, .inl (fun _ => 0))), (q_11, .inl (cA_12, 10000, .inl (fun _ => 0)))] := hD
  refine lv_aload_n hx hb d_M_init_55 rfl (lv_at hl 0 rfl) ?_
  refine lv_bipush (v := 50) hx hb d_M_init_56 (by decide) ?_
  refine va_newa (D := (dC, dI)) (atype := .int) (ty := .int) (N' := 50) (a0 := (50, .inl (fun _ => 0))) hx hb (hts _ tw_153) rfl hK hP hD hS hA (fun _ => rfl) (by decide) (by decide) (by decide) (Nat.le_of_ble_eq_true rfl) (Nat.le_of_ble_eq_true rfl) d_M_init_58 (fun q_13 cA_14 H hK hP hD hS => ?_)
  refine W.widen (k := 7) (n := 20660) (by omega) (by omega) ?_
  replace hP : va_P (dC, dI) vwCl [(a_m, .inr (5, [.int 0, .ref q_1, .int 0, .int 0, .int 0, .ref q_3, .ref q_5, .ref q_7, .int 0, .ref q_9, .ref q_11, .null, .null, .null, .null, .null, .int 0, .null, .null, .int 0, .null, .int 0])), (q_1, .inl (cA_2, 120, .inl (fun _ => 0))), (q_3, .inl (cA_4, 410, .inl (fun _ => 0))), (q_5, .inl (cA_6, 40, .inl (fun _ => 0))), (q_7, .inl (cA_8, 40, .inl (fun _ => 0))), (q_9, .inl (cA_10, 10000, .inl (fun _ => 0))), (q_11, .inl (cA_12, 10000, .inl (fun _ => 0))), (q_13, .inl (cA_14, 50, .inl (fun _ => 0)))] H := hP
  replace hD : va_D A [(a_m, .inr (5, [.int 0, .ref q_1, .int 0, .int 0, .int 0, .ref q_3, .ref q_5, .ref q_7, .int 0, .ref q_9, .ref q_11, .null, .null, .null, .null, .null, .int 0, .null, .null, .int 0, .null, .int 0])), (q_1, .inl (cA_2, 120, .inl (fun _ => 0))), (q_3, .inl (cA_4, 410, .inl (fun _ => 0))), (q_5, .inl (cA_6, 40, .inl (fun _ => 0))), (q_7, .inl (cA_8, 40, .inl (fun _ => 0))), (q_9, .inl (cA_10, 10000, .inl (fun _ => 0))), (q_11, .inl (cA_12, 10000, .inl (fun _ => 0))), (q_13, .inl (cA_14, 50, .inl (fun _ => 0)))] := hD
  replace hK : va_K (dC, dI) vwCl [(cA_2, .byte), (cA_4, .int), (cA_6, .boolean), (cA_8, .boolean), (cA_10, .boolean), (cA_12, .boolean), (cA_14, .int)] s := hK
  refine va_putF (D := (dC, dI)) (ci := 5) (v := .ref q_13) (ty := (.array .int)) (C := "LoanRulesModel") (T := Fz_M) (N := 22) hx hb hts it_M tz_M tz_M_ok nz_M hown hK hP hD hS 0 rfl rfl 11 (by decide) (hts _ tw_612) (fun _ h9 => h9) rfl hin rfl (by decide +kernel) rfl rfl (Nat.le_of_ble_eq_true rfl) d_M_init_60 (fun H locs hP hD hS => ?_)
  replace hP : va_P (dC, dI) vwCl [(a_m, .inr (5, [.int 0, .ref q_1, .int 0, .int 0, .int 0, .ref q_3, .ref q_5, .ref q_7, .int 0, .ref q_9, .ref q_11, .ref q_13, .null, .null, .null, .null, .int 0, .null, .null, .int 0, .null, .int 0])), (q_1, .inl (cA_2, 120, .inl (fun _ => 0))), (q_3, .inl (cA_4, 410, .inl (fun _ => 0))), (q_5, .inl (cA_6, 40, .inl (fun _ => 0))), (q_7, .inl (cA_8, 40, .inl (fun _ => 0))), (q_9, .inl (cA_10, 10000, .inl (fun _ => 0))), (q_11, .inl (cA_12, 10000, .inl (fun _ => 0))), (q_13, .inl (cA_14, 50, .inl (fun _ => 0)))] H := hP
  replace hD : va_D A [(a_m, .inr (5, [.int 0, .ref q_1, .int 0, .int 0, .int 0, .ref q_3, .ref q_5, .ref q_7, .int 0, .ref q_9, .ref q_11, .ref q_13, .null, .null, .null, .null, .int 0, .null, .null, .int 0, .null, .int 0])), (q_1, .inl (cA_2, 120, .inl (fun _ => 0))), (q_3, .inl (cA_4, 410, .inl (fun _ => 0))), (q_5, .inl (cA_6, 40, .inl (fun _ => 0))), (q_7, .inl (cA_8, 40, .inl (fun _ => 0))), (q_9, .inl (cA_10, 10000, .inl (fun _ => 0))), (q_11, .inl (cA_12, 10000, .inl (fun _ => 0))), (q_13, .inl (cA_14, 50, .inl (fun _ => 0)))] := hD
  refine lv_aload_n hx hb d_M_init_63 rfl (lv_at hl 0 rfl) ?_
  refine lv_bipush (v := 50) hx hb d_M_init_64 (by decide) ?_
  refine va_newa (D := (dC, dI)) (atype := .int) (ty := .int) (N' := 50) (a0 := (50, .inl (fun _ => 0))) hx hb (hts _ tw_153) rfl hK hP hD hS hA (fun _ => rfl) (by decide) (by decide) (by decide) (Nat.le_of_ble_eq_true rfl) (Nat.le_of_ble_eq_true rfl) d_M_init_66 (fun q_15 cA_16 H hK hP hD hS => ?_)
  refine W.widen (k := 8) (n := 20710) (by omega) (by omega) ?_
  replace hP : va_P (dC, dI) vwCl [(a_m, .inr (5, [.int 0, .ref q_1, .int 0, .int 0, .int 0, .ref q_3, .ref q_5, .ref q_7, .int 0, .ref q_9, .ref q_11, .ref q_13, .null, .null, .null, .null, .int 0, .null, .null, .int 0, .null, .int 0])), (q_1, .inl (cA_2, 120, .inl (fun _ => 0))), (q_3, .inl (cA_4, 410, .inl (fun _ => 0))), (q_5, .inl (cA_6, 40, .inl (fun _ => 0))), (q_7, .inl (cA_8, 40, .inl (fun _ => 0))), (q_9, .inl (cA_10, 10000, .inl (fun _ => 0))), (q_11, .inl (cA_12, 10000, .inl (fun _ => 0))), (q_13, .inl (cA_14, 50, .inl (fun _ => 0))), (q_15, .inl (cA_16, 50, .inl (fun _ => 0)))] H := hP
  replace hD : va_D A [(a_m, .inr (5, [.int 0, .ref q_1, .int 0, .int 0, .int 0, .ref q_3, .ref q_5, .ref q_7, .int 0, .ref q_9, .ref q_11, .ref q_13, .null, .null, .null, .null, .int 0, .null, .null, .int 0, .null, .int 0])), (q_1, .inl (cA_2, 120, .inl (fun _ => 0))), (q_3, .inl (cA_4, 410, .inl (fun _ => 0))), (q_5, .inl (cA_6, 40, .inl (fun _ => 0))), (q_7, .inl (cA_8, 40, .inl (fun _ => 0))), (q_9, .inl (cA_10, 10000, .inl (fun _ => 0))), (q_11, .inl (cA_12, 10000, .inl (fun _ => 0))), (q_13, .inl (cA_14, 50, .inl (fun _ => 0))), (q_15, .inl (cA_16, 50, .inl (fun _ => 0)))] := hD
  replace hK : va_K (dC, dI) vwCl [(cA_2, .byte), (cA_4, .int), (cA_6, .boolean), (cA_8, .boolean), (cA_10, .boolean), (cA_12, .boolean), (cA_14, .int), (cA_16, .int)] s := hK
  refine va_putF (D := (dC, dI)) (ci := 5) (v := .ref q_15) (ty := (.array .int)) (C := "LoanRulesModel") (T := Fz_M) (N := 22) hx hb hts it_M tz_M tz_M_ok nz_M hown hK hP hD hS 0 rfl rfl 12 (by decide) (hts _ tw_613) (fun _ h9 => h9) rfl hin rfl (by decide +kernel) rfl rfl (Nat.le_of_ble_eq_true rfl) d_M_init_68 (fun H locs hP hD hS => ?_)
  replace hP : va_P (dC, dI) vwCl [(a_m, .inr (5, [.int 0, .ref q_1, .int 0, .int 0, .int 0, .ref q_3, .ref q_5, .ref q_7, .int 0, .ref q_9, .ref q_11, .ref q_13, .ref q_15, .null, .null, .null, .int 0, .null, .null, .int 0, .null, .int 0])), (q_1, .inl (cA_2, 120, .inl (fun _ => 0))), (q_3, .inl (cA_4, 410, .inl (fun _ => 0))), (q_5, .inl (cA_6, 40, .inl (fun _ => 0))), (q_7, .inl (cA_8, 40, .inl (fun _ => 0))), (q_9, .inl (cA_10, 10000, .inl (fun _ => 0))), (q_11, .inl (cA_12, 10000, .inl (fun _ => 0))), (q_13, .inl (cA_14, 50, .inl (fun _ => 0))), (q_15, .inl (cA_16, 50, .inl (fun _ => 0)))] H := hP
  replace hD : va_D A [(a_m, .inr (5, [.int 0, .ref q_1, .int 0, .int 0, .int 0, .ref q_3, .ref q_5, .ref q_7, .int 0, .ref q_9, .ref q_11, .ref q_13, .ref q_15, .null, .null, .null, .int 0, .null, .null, .int 0, .null, .int 0])), (q_1, .inl (cA_2, 120, .inl (fun _ => 0))), (q_3, .inl (cA_4, 410, .inl (fun _ => 0))), (q_5, .inl (cA_6, 40, .inl (fun _ => 0))), (q_7, .inl (cA_8, 40, .inl (fun _ => 0))), (q_9, .inl (cA_10, 10000, .inl (fun _ => 0))), (q_11, .inl (cA_12, 10000, .inl (fun _ => 0))), (q_13, .inl (cA_14, 50, .inl (fun _ => 0))), (q_15, .inl (cA_16, 50, .inl (fun _ => 0)))] := hD
  refine lv_aload_n hx hb d_M_init_71 rfl (lv_at hl 0 rfl) ?_
  refine lv_bipush (v := 50) hx hb d_M_init_72 (by decide) ?_
  refine va_newa (D := (dC, dI)) (atype := .int) (ty := .int) (N' := 50) (a0 := (50, .inl (fun _ => 0))) hx hb (hts _ tw_153) rfl hK hP hD hS hA (fun _ => rfl) (by decide) (by decide) (by decide) (Nat.le_of_ble_eq_true rfl) (Nat.le_of_ble_eq_true rfl) d_M_init_74 (fun q_17 cA_18 H hK hP hD hS => ?_)
  refine W.widen (k := 9) (n := 20760) (by omega) (by omega) ?_
  replace hP : va_P (dC, dI) vwCl [(a_m, .inr (5, [.int 0, .ref q_1, .int 0, .int 0, .int 0, .ref q_3, .ref q_5, .ref q_7, .int 0, .ref q_9, .ref q_11, .ref q_13, .ref q_15, .null, .null, .null, .int 0, .null, .null, .int 0, .null, .int 0])), (q_1, .inl (cA_2, 120, .inl (fun _ => 0))), (q_3, .inl (cA_4, 410, .inl (fun _ => 0))), (q_5, .inl (cA_6, 40, .inl (fun _ => 0))), (q_7, .inl (cA_8, 40, .inl (fun _ => 0))), (q_9, .inl (cA_10, 10000, .inl (fun _ => 0))), (q_11, .inl (cA_12, 10000, .inl (fun _ => 0))), (q_13, .inl (cA_14, 50, .inl (fun _ => 0))), (q_15, .inl (cA_16, 50, .inl (fun _ => 0))), (q_17, .inl (cA_18, 50, .inl (fun _ => 0)))] H := hP
  replace hD : va_D A [(a_m, .inr (5, [.int 0, .ref q_1, .int 0, .int 0, .int 0, .ref q_3, .ref q_5, .ref q_7, .int 0, .ref q_9, .ref q_11, .ref q_13, .ref q_15, .null, .null, .null, .int 0, .null, .null, .int 0, .null, .int 0])), (q_1, .inl (cA_2, 120, .inl (fun _ => 0))), (q_3, .inl (cA_4, 410, .inl (fun _ => 0))), (q_5, .inl (cA_6, 40, .inl (fun _ => 0))), (q_7, .inl (cA_8, 40, .inl (fun _ => 0))), (q_9, .inl (cA_10, 10000, .inl (fun _ => 0))), (q_11, .inl (cA_12, 10000, .inl (fun _ => 0))), (q_13, .inl (cA_14, 50, .inl (fun _ => 0))), (q_15, .inl (cA_16, 50, .inl (fun _ => 0))), (q_17, .inl (cA_18, 50, .inl (fun _ => 0)))] := hD
  replace hK : va_K (dC, dI) vwCl [(cA_2, .byte), (cA_4, .int), (cA_6, .boolean), (cA_8, .boolean), (cA_10, .boolean), (cA_12, .boolean), (cA_14, .int), (cA_16, .int), (cA_18, .int)] s := hK
  refine va_putF (D := (dC, dI)) (ci := 5) (v := .ref q_17) (ty := (.array .int)) (C := "LoanRulesModel") (T := Fz_M) (N := 22) hx hb hts it_M tz_M tz_M_ok nz_M hown hK hP hD hS 0 rfl rfl 13 (by decide) (hts _ tw_614) (fun _ h9 => h9) rfl hin rfl (by decide +kernel) rfl rfl (Nat.le_of_ble_eq_true rfl) d_M_init_76 (fun H locs hP hD hS => ?_)
  replace hP : va_P (dC, dI) vwCl [(a_m, .inr (5, [.int 0, .ref q_1, .int 0, .int 0, .int 0, .ref q_3, .ref q_5, .ref q_7, .int 0, .ref q_9, .ref q_11, .ref q_13, .ref q_15, .ref q_17, .null, .null, .int 0, .null, .null, .int 0, .null, .int 0])), (q_1, .inl (cA_2, 120, .inl (fun _ => 0))), (q_3, .inl (cA_4, 410, .inl (fun _ => 0))), (q_5, .inl (cA_6, 40, .inl (fun _ => 0))), (q_7, .inl (cA_8, 40, .inl (fun _ => 0))), (q_9, .inl (cA_10, 10000, .inl (fun _ => 0))), (q_11, .inl (cA_12, 10000, .inl (fun _ => 0))), (q_13, .inl (cA_14, 50, .inl (fun _ => 0))), (q_15, .inl (cA_16, 50, .inl (fun _ => 0))), (q_17, .inl (cA_18, 50, .inl (fun _ => 0)))] H := hP
  replace hD : va_D A [(a_m, .inr (5, [.int 0, .ref q_1, .int 0, .int 0, .int 0, .ref q_3, .ref q_5, .ref q_7, .int 0, .ref q_9, .ref q_11, .ref q_13, .ref q_15, .ref q_17, .null, .null, .int 0, .null, .null, .int 0, .null, .int 0])), (q_1, .inl (cA_2, 120, .inl (fun _ => 0))), (q_3, .inl (cA_4, 410, .inl (fun _ => 0))), (q_5, .inl (cA_6, 40, .inl (fun _ => 0))), (q_7, .inl (cA_8, 40, .inl (fun _ => 0))), (q_9, .inl (cA_10, 10000, .inl (fun _ => 0))), (q_11, .inl (cA_12, 10000, .inl (fun _ => 0))), (q_13, .inl (cA_14, 50, .inl (fun _ => 0))), (q_15, .inl (cA_16, 50, .inl (fun _ => 0))), (q_17, .inl (cA_18, 50, .inl (fun _ => 0)))] := hD
  refine lv_aload_n hx hb d_M_init_79 rfl (lv_at hl 0 rfl) ?_
  refine lv_sipush (v := 2000) hx hb d_M_init_80 (by decide) ?_
  refine va_newa (D := (dC, dI)) (atype := .int) (ty := .int) (N' := 2000) (a0 := (2000, .inl (fun _ => 0))) hx hb (hts _ tw_153) rfl hK hP hD hS hA (fun _ => rfl) (by decide) (by decide) (by decide) (Nat.le_of_ble_eq_true rfl) (Nat.le_of_ble_eq_true rfl) d_M_init_83 (fun q_19 cA_20 H hK hP hD hS => ?_)
  refine W.widen (k := 10) (n := 22760) (by omega) (by omega) ?_
  replace hP : va_P (dC, dI) vwCl [(a_m, .inr (5, [.int 0, .ref q_1, .int 0, .int 0, .int 0, .ref q_3, .ref q_5, .ref q_7, .int 0, .ref q_9, .ref q_11, .ref q_13, .ref q_15, .ref q_17, .null, .null, .int 0, .null, .null, .int 0, .null, .int 0])), (q_1, .inl (cA_2, 120, .inl (fun _ => 0))), (q_3, .inl (cA_4, 410, .inl (fun _ => 0))), (q_5, .inl (cA_6, 40, .inl (fun _ => 0))), (q_7, .inl (cA_8, 40, .inl (fun _ => 0))), (q_9, .inl (cA_10, 10000, .inl (fun _ => 0))), (q_11, .inl (cA_12, 10000, .inl (fun _ => 0))), (q_13, .inl (cA_14, 50, .inl (fun _ => 0))), (q_15, .inl (cA_16, 50, .inl (fun _ => 0))), (q_17, .inl (cA_18, 50, .inl (fun _ => 0))), (q_19, .inl (cA_20, 2000, .inl (fun _ => 0)))] H := hP
  replace hD : va_D A [(a_m, .inr (5, [.int 0, .ref q_1, .int 0, .int 0, .int 0, .ref q_3, .ref q_5, .ref q_7, .int 0, .ref q_9, .ref q_11, .ref q_13, .ref q_15, .ref q_17, .null, .null, .int 0, .null, .null, .int 0, .null, .int 0])), (q_1, .inl (cA_2, 120, .inl (fun _ => 0))), (q_3, .inl (cA_4, 410, .inl (fun _ => 0))), (q_5, .inl (cA_6, 40, .inl (fun _ => 0))), (q_7, .inl (cA_8, 40, .inl (fun _ => 0))), (q_9, .inl (cA_10, 10000, .inl (fun _ => 0))), (q_11, .inl (cA_12, 10000, .inl (fun _ => 0))), (q_13, .inl (cA_14, 50, .inl (fun _ => 0))), (q_15, .inl (cA_16, 50, .inl (fun _ => 0))), (q_17, .inl (cA_18, 50, .inl (fun _ => 0))), (q_19, .inl (cA_20, 2000, .inl (fun _ => 0)))] := hD
  replace hK : va_K (dC, dI) vwCl [(cA_2, .byte), (cA_4, .int), (cA_6, .boolean), (cA_8, .boolean), (cA_10, .boolean), (cA_12, .boolean), (cA_14, .int), (cA_16, .int), (cA_18, .int), (cA_20, .int)] s := hK
  refine va_putF (D := (dC, dI)) (ci := 5) (v := .ref q_19) (ty := (.array .int)) (C := "LoanRulesModel") (T := Fz_M) (N := 22) hx hb hts it_M tz_M tz_M_ok nz_M hown hK hP hD hS 0 rfl rfl 14 (by decide) (hts _ tw_615) (fun _ h9 => h9) rfl hin rfl (by decide +kernel) rfl rfl (Nat.le_of_ble_eq_true rfl) d_M_init_85 (fun H locs hP hD hS => ?_)
  replace hP : va_P (dC, dI) vwCl [(a_m, .inr (5, [.int 0, .ref q_1, .int 0, .int 0, .int 0, .ref q_3, .ref q_5, .ref q_7, .int 0, .ref q_9, .ref q_11, .ref q_13, .ref q_15, .ref q_17, .ref q_19, .null, .int 0, .null, .null, .int 0, .null, .int 0])), (q_1, .inl (cA_2, 120, .inl (fun _ => 0))), (q_3, .inl (cA_4, 410, .inl (fun _ => 0))), (q_5, .inl (cA_6, 40, .inl (fun _ => 0))), (q_7, .inl (cA_8, 40, .inl (fun _ => 0))), (q_9, .inl (cA_10, 10000, .inl (fun _ => 0))), (q_11, .inl (cA_12, 10000, .inl (fun _ => 0))), (q_13, .inl (cA_14, 50, .inl (fun _ => 0))), (q_15, .inl (cA_16, 50, .inl (fun _ => 0))), (q_17, .inl (cA_18, 50, .inl (fun _ => 0))), (q_19, .inl (cA_20, 2000, .inl (fun _ => 0)))] H := hP
  replace hD : va_D A [(a_m, .inr (5, [.int 0, .ref q_1, .int 0, .int 0, .int 0, .ref q_3, .ref q_5, .ref q_7, .int 0, .ref q_9, .ref q_11, .ref q_13, .ref q_15, .ref q_17, .ref q_19, .null, .int 0, .null, .null, .int 0, .null, .int 0])), (q_1, .inl (cA_2, 120, .inl (fun _ => 0))), (q_3, .inl (cA_4, 410, .inl (fun _ => 0))), (q_5, .inl (cA_6, 40, .inl (fun _ => 0))), (q_7, .inl (cA_8, 40, .inl (fun _ => 0))), (q_9, .inl (cA_10, 10000, .inl (fun _ => 0))), (q_11, .inl (cA_12, 10000, .inl (fun _ => 0))), (q_13, .inl (cA_14, 50, .inl (fun _ => 0))), (q_15, .inl (cA_16, 50, .inl (fun _ => 0))), (q_17, .inl (cA_18, 50, .inl (fun _ => 0))), (q_19, .inl (cA_20, 2000, .inl (fun _ => 0)))] := hD
  refine lv_aload_n hx hb d_M_init_88 rfl (lv_at hl 0 rfl) ?_
  refine lv_sipush (v := 1407) hx hb d_M_init_89 (by decide) ?_
  refine va_newa (D := (dC, dI)) (atype := .int) (ty := .int) (N' := 1407) (a0 := (1407, .inl (fun _ => 0))) hx hb (hts _ tw_153) rfl hK hP hD hS hA (fun _ => rfl) (by decide) (by decide) (by decide) (Nat.le_of_ble_eq_true rfl) (Nat.le_of_ble_eq_true rfl) d_M_init_92 (fun q_21 cA_22 H hK hP hD hS => ?_)
  refine W.widen (k := 11) (n := 24167) (by omega) (by omega) ?_
  replace hP : va_P (dC, dI) vwCl [(a_m, .inr (5, [.int 0, .ref q_1, .int 0, .int 0, .int 0, .ref q_3, .ref q_5, .ref q_7, .int 0, .ref q_9, .ref q_11, .ref q_13, .ref q_15, .ref q_17, .ref q_19, .null, .int 0, .null, .null, .int 0, .null, .int 0])), (q_1, .inl (cA_2, 120, .inl (fun _ => 0))), (q_3, .inl (cA_4, 410, .inl (fun _ => 0))), (q_5, .inl (cA_6, 40, .inl (fun _ => 0))), (q_7, .inl (cA_8, 40, .inl (fun _ => 0))), (q_9, .inl (cA_10, 10000, .inl (fun _ => 0))), (q_11, .inl (cA_12, 10000, .inl (fun _ => 0))), (q_13, .inl (cA_14, 50, .inl (fun _ => 0))), (q_15, .inl (cA_16, 50, .inl (fun _ => 0))), (q_17, .inl (cA_18, 50, .inl (fun _ => 0))), (q_19, .inl (cA_20, 2000, .inl (fun _ => 0))), (q_21, .inl (cA_22, 1407, .inl (fun _ => 0)))] H := hP
  replace hD : va_D A [(a_m, .inr (5, [.int 0, .ref q_1, .int 0, .int 0, .int 0, .ref q_3, .ref q_5, .ref q_7, .int 0, .ref q_9, .ref q_11, .ref q_13, .ref q_15, .ref q_17, .ref q_19, .null, .int 0, .null, .null, .int 0, .null, .int 0])), (q_1, .inl (cA_2, 120, .inl (fun _ => 0))), (q_3, .inl (cA_4, 410, .inl (fun _ => 0))), (q_5, .inl (cA_6, 40, .inl (fun _ => 0))), (q_7, .inl (cA_8, 40, .inl (fun _ => 0))), (q_9, .inl (cA_10, 10000, .inl (fun _ => 0))), (q_11, .inl (cA_12, 10000, .inl (fun _ => 0))), (q_13, .inl (cA_14, 50, .inl (fun _ => 0))), (q_15, .inl (cA_16, 50, .inl (fun _ => 0))), (q_17, .inl (cA_18, 50, .inl (fun _ => 0))), (q_19, .inl (cA_20, 2000, .inl (fun _ => 0))), (q_21, .inl (cA_22, 1407, .inl (fun _ => 0)))] := hD
  replace hK : va_K (dC, dI) vwCl [(cA_2, .byte), (cA_4, .int), (cA_6, .boolean), (cA_8, .boolean), (cA_10, .boolean), (cA_12, .boolean), (cA_14, .int), (cA_16, .int), (cA_18, .int), (cA_20, .int), (cA_22, .int)] s := hK
  refine va_putF (D := (dC, dI)) (ci := 5) (v := .ref q_21) (ty := (.array .int)) (C := "LoanRulesModel") (T := Fz_M) (N := 22) hx hb hts it_M tz_M tz_M_ok nz_M hown hK hP hD hS 0 rfl rfl 15 (by decide) (hts _ tw_616) (fun _ h9 => h9) rfl hin rfl (by decide +kernel) rfl rfl (Nat.le_of_ble_eq_true rfl) d_M_init_94 (fun H locs hP hD hS => ?_)
  replace hP : va_P (dC, dI) vwCl [(a_m, .inr (5, [.int 0, .ref q_1, .int 0, .int 0, .int 0, .ref q_3, .ref q_5, .ref q_7, .int 0, .ref q_9, .ref q_11, .ref q_13, .ref q_15, .ref q_17, .ref q_19, .ref q_21, .int 0, .null, .null, .int 0, .null, .int 0])), (q_1, .inl (cA_2, 120, .inl (fun _ => 0))), (q_3, .inl (cA_4, 410, .inl (fun _ => 0))), (q_5, .inl (cA_6, 40, .inl (fun _ => 0))), (q_7, .inl (cA_8, 40, .inl (fun _ => 0))), (q_9, .inl (cA_10, 10000, .inl (fun _ => 0))), (q_11, .inl (cA_12, 10000, .inl (fun _ => 0))), (q_13, .inl (cA_14, 50, .inl (fun _ => 0))), (q_15, .inl (cA_16, 50, .inl (fun _ => 0))), (q_17, .inl (cA_18, 50, .inl (fun _ => 0))), (q_19, .inl (cA_20, 2000, .inl (fun _ => 0))), (q_21, .inl (cA_22, 1407, .inl (fun _ => 0)))] H := hP
  replace hD : va_D A [(a_m, .inr (5, [.int 0, .ref q_1, .int 0, .int 0, .int 0, .ref q_3, .ref q_5, .ref q_7, .int 0, .ref q_9, .ref q_11, .ref q_13, .ref q_15, .ref q_17, .ref q_19, .ref q_21, .int 0, .null, .null, .int 0, .null, .int 0])), (q_1, .inl (cA_2, 120, .inl (fun _ => 0))), (q_3, .inl (cA_4, 410, .inl (fun _ => 0))), (q_5, .inl (cA_6, 40, .inl (fun _ => 0))), (q_7, .inl (cA_8, 40, .inl (fun _ => 0))), (q_9, .inl (cA_10, 10000, .inl (fun _ => 0))), (q_11, .inl (cA_12, 10000, .inl (fun _ => 0))), (q_13, .inl (cA_14, 50, .inl (fun _ => 0))), (q_15, .inl (cA_16, 50, .inl (fun _ => 0))), (q_17, .inl (cA_18, 50, .inl (fun _ => 0))), (q_19, .inl (cA_20, 2000, .inl (fun _ => 0))), (q_21, .inl (cA_22, 1407, .inl (fun _ => 0)))] := hD
  refine lv_aload_n hx hb d_M_init_97 rfl (lv_at hl 0 rfl) ?_
  refine lv_bipush (v := 50) hx hb d_M_init_98 (by decide) ?_
  refine va_newa (D := (dC, dI)) (atype := .int) (ty := .int) (N' := 50) (a0 := (50, .inl (fun _ => 0))) hx hb (hts _ tw_153) rfl hK hP hD hS hA (fun _ => rfl) (by decide) (by decide) (by decide) (Nat.le_of_ble_eq_true rfl) (Nat.le_of_ble_eq_true rfl) d_M_init_100 (fun q_23 cA_24 H hK hP hD hS => ?_)
  refine W.widen (k := 12) (n := 24217) (by omega) (by omega) ?_
  replace hP : va_P (dC, dI) vwCl [(a_m, .inr (5, [.int 0, .ref q_1, .int 0, .int 0, .int 0, .ref q_3, .ref q_5, .ref q_7, .int 0, .ref q_9, .ref q_11, .ref q_13, .ref q_15, .ref q_17, .ref q_19, .ref q_21, .int 0, .null, .null, .int 0, .null, .int 0])), (q_1, .inl (cA_2, 120, .inl (fun _ => 0))), (q_3, .inl (cA_4, 410, .inl (fun _ => 0))), (q_5, .inl (cA_6, 40, .inl (fun _ => 0))), (q_7, .inl (cA_8, 40, .inl (fun _ => 0))), (q_9, .inl (cA_10, 10000, .inl (fun _ => 0))), (q_11, .inl (cA_12, 10000, .inl (fun _ => 0))), (q_13, .inl (cA_14, 50, .inl (fun _ => 0))), (q_15, .inl (cA_16, 50, .inl (fun _ => 0))), (q_17, .inl (cA_18, 50, .inl (fun _ => 0))), (q_19, .inl (cA_20, 2000, .inl (fun _ => 0))), (q_21, .inl (cA_22, 1407, .inl (fun _ => 0))), (q_23, .inl (cA_24, 50, .inl (fun _ => 0)))] H := hP
  replace hD : va_D A [(a_m, .inr (5, [.int 0, .ref q_1, .int 0, .int 0, .int 0, .ref q_3, .ref q_5, .ref q_7, .int 0, .ref q_9, .ref q_11, .ref q_13, .ref q_15, .ref q_17, .ref q_19, .ref q_21, .int 0, .null, .null, .int 0, .null, .int 0])), (q_1, .inl (cA_2, 120, .inl (fun _ => 0))), (q_3, .inl (cA_4, 410, .inl (fun _ => 0))), (q_5, .inl (cA_6, 40, .inl (fun _ => 0))), (q_7, .inl (cA_8, 40, .inl (fun _ => 0))), (q_9, .inl (cA_10, 10000, .inl (fun _ => 0))), (q_11, .inl (cA_12, 10000, .inl (fun _ => 0))), (q_13, .inl (cA_14, 50, .inl (fun _ => 0))), (q_15, .inl (cA_16, 50, .inl (fun _ => 0))), (q_17, .inl (cA_18, 50, .inl (fun _ => 0))), (q_19, .inl (cA_20, 2000, .inl (fun _ => 0))), (q_21, .inl (cA_22, 1407, .inl (fun _ => 0))), (q_23, .inl (cA_24, 50, .inl (fun _ => 0)))] := hD
  replace hK : va_K (dC, dI) vwCl [(cA_2, .byte), (cA_4, .int), (cA_6, .boolean), (cA_8, .boolean), (cA_10, .boolean), (cA_12, .boolean), (cA_14, .int), (cA_16, .int), (cA_18, .int), (cA_20, .int), (cA_22, .int), (cA_24, .int)] s := hK
  refine va_putF (D := (dC, dI)) (ci := 5) (v := .ref q_23) (ty := (.array .int)) (C := "LoanRulesModel") (T := Fz_M) (N := 22) hx hb hts it_M tz_M tz_M_ok nz_M hown hK hP hD hS 0 rfl rfl 17 (by decide) (hts _ tw_618) (fun _ h9 => h9) rfl hin rfl (by decide +kernel) rfl rfl (Nat.le_of_ble_eq_true rfl) d_M_init_102 (fun H locs hP hD hS => ?_)
  replace hP : va_P (dC, dI) vwCl [(a_m, .inr (5, [.int 0, .ref q_1, .int 0, .int 0, .int 0, .ref q_3, .ref q_5, .ref q_7, .int 0, .ref q_9, .ref q_11, .ref q_13, .ref q_15, .ref q_17, .ref q_19, .ref q_21, .int 0, .ref q_23, .null, .int 0, .null, .int 0])), (q_1, .inl (cA_2, 120, .inl (fun _ => 0))), (q_3, .inl (cA_4, 410, .inl (fun _ => 0))), (q_5, .inl (cA_6, 40, .inl (fun _ => 0))), (q_7, .inl (cA_8, 40, .inl (fun _ => 0))), (q_9, .inl (cA_10, 10000, .inl (fun _ => 0))), (q_11, .inl (cA_12, 10000, .inl (fun _ => 0))), (q_13, .inl (cA_14, 50, .inl (fun _ => 0))), (q_15, .inl (cA_16, 50, .inl (fun _ => 0))), (q_17, .inl (cA_18, 50, .inl (fun _ => 0))), (q_19, .inl (cA_20, 2000, .inl (fun _ => 0))), (q_21, .inl (cA_22, 1407, .inl (fun _ => 0))), (q_23, .inl (cA_24, 50, .inl (fun _ => 0)))] H := hP
  replace hD : va_D A [(a_m, .inr (5, [.int 0, .ref q_1, .int 0, .int 0, .int 0, .ref q_3, .ref q_5, .ref q_7, .int 0, .ref q_9, .ref q_11, .ref q_13, .ref q_15, .ref q_17, .ref q_19, .ref q_21, .int 0, .ref q_23, .null, .int 0, .null, .int 0])), (q_1, .inl (cA_2, 120, .inl (fun _ => 0))), (q_3, .inl (cA_4, 410, .inl (fun _ => 0))), (q_5, .inl (cA_6, 40, .inl (fun _ => 0))), (q_7, .inl (cA_8, 40, .inl (fun _ => 0))), (q_9, .inl (cA_10, 10000, .inl (fun _ => 0))), (q_11, .inl (cA_12, 10000, .inl (fun _ => 0))), (q_13, .inl (cA_14, 50, .inl (fun _ => 0))), (q_15, .inl (cA_16, 50, .inl (fun _ => 0))), (q_17, .inl (cA_18, 50, .inl (fun _ => 0))), (q_19, .inl (cA_20, 2000, .inl (fun _ => 0))), (q_21, .inl (cA_22, 1407, .inl (fun _ => 0))), (q_23, .inl (cA_24, 50, .inl (fun _ => 0)))] := hD
  refine lv_aload_n hx hb d_M_init_105 rfl (lv_at hl 0 rfl) ?_
  refine lv_bipush (v := 40) hx hb d_M_init_106 (by decide) ?_
  refine va_newa (D := (dC, dI)) (atype := .int) (ty := .int) (N' := 40) (a0 := (40, .inl (fun _ => 0))) hx hb (hts _ tw_153) rfl hK hP hD hS hA (fun _ => rfl) (by decide) (by decide) (by decide) (Nat.le_of_ble_eq_true rfl) (Nat.le_of_ble_eq_true rfl) d_M_init_108 (fun q_25 cA_26 H hK hP hD hS => ?_)
  refine W.widen (k := 13) (n := 24257) (by omega) (by omega) ?_
  replace hP : va_P (dC, dI) vwCl [(a_m, .inr (5, [.int 0, .ref q_1, .int 0, .int 0, .int 0, .ref q_3, .ref q_5, .ref q_7, .int 0, .ref q_9, .ref q_11, .ref q_13, .ref q_15, .ref q_17, .ref q_19, .ref q_21, .int 0, .ref q_23, .null, .int 0, .null, .int 0])), (q_1, .inl (cA_2, 120, .inl (fun _ => 0))), (q_3, .inl (cA_4, 410, .inl (fun _ => 0))), (q_5, .inl (cA_6, 40, .inl (fun _ => 0))), (q_7, .inl (cA_8, 40, .inl (fun _ => 0))), (q_9, .inl (cA_10, 10000, .inl (fun _ => 0))), (q_11, .inl (cA_12, 10000, .inl (fun _ => 0))), (q_13, .inl (cA_14, 50, .inl (fun _ => 0))), (q_15, .inl (cA_16, 50, .inl (fun _ => 0))), (q_17, .inl (cA_18, 50, .inl (fun _ => 0))), (q_19, .inl (cA_20, 2000, .inl (fun _ => 0))), (q_21, .inl (cA_22, 1407, .inl (fun _ => 0))), (q_23, .inl (cA_24, 50, .inl (fun _ => 0))), (q_25, .inl (cA_26, 40, .inl (fun _ => 0)))] H := hP
  replace hD : va_D A [(a_m, .inr (5, [.int 0, .ref q_1, .int 0, .int 0, .int 0, .ref q_3, .ref q_5, .ref q_7, .int 0, .ref q_9, .ref q_11, .ref q_13, .ref q_15, .ref q_17, .ref q_19, .ref q_21, .int 0, .ref q_23, .null, .int 0, .null, .int 0])), (q_1, .inl (cA_2, 120, .inl (fun _ => 0))), (q_3, .inl (cA_4, 410, .inl (fun _ => 0))), (q_5, .inl (cA_6, 40, .inl (fun _ => 0))), (q_7, .inl (cA_8, 40, .inl (fun _ => 0))), (q_9, .inl (cA_10, 10000, .inl (fun _ => 0))), (q_11, .inl (cA_12, 10000, .inl (fun _ => 0))), (q_13, .inl (cA_14, 50, .inl (fun _ => 0))), (q_15, .inl (cA_16, 50, .inl (fun _ => 0))), (q_17, .inl (cA_18, 50, .inl (fun _ => 0))), (q_19, .inl (cA_20, 2000, .inl (fun _ => 0))), (q_21, .inl (cA_22, 1407, .inl (fun _ => 0))), (q_23, .inl (cA_24, 50, .inl (fun _ => 0))), (q_25, .inl (cA_26, 40, .inl (fun _ => 0)))] := hD
  replace hK : va_K (dC, dI) vwCl [(cA_2, .byte), (cA_4, .int), (cA_6, .boolean), (cA_8, .boolean), (cA_10, .boolean), (cA_12, .boolean), (cA_14, .int), (cA_16, .int), (cA_18, .int), (cA_20, .int), (cA_22, .int), (cA_24, .int), (cA_26, .int)] s := hK
  refine va_putF (D := (dC, dI)) (ci := 5) (v := .ref q_25) (ty := (.array .int)) (C := "LoanRulesModel") (T := Fz_M) (N := 22) hx hb hts it_M tz_M tz_M_ok nz_M hown hK hP hD hS 0 rfl rfl 18 (by decide) (hts _ tw_619) (fun _ h9 => h9) rfl hin rfl (by decide +kernel) rfl rfl (Nat.le_of_ble_eq_true rfl) d_M_init_110 (fun H locs hP hD hS => ?_)
  replace hP : va_P (dC, dI) vwCl [(a_m, .inr (5, [.int 0, .ref q_1, .int 0, .int 0, .int 0, .ref q_3, .ref q_5, .ref q_7, .int 0, .ref q_9, .ref q_11, .ref q_13, .ref q_15, .ref q_17, .ref q_19, .ref q_21, .int 0, .ref q_23, .ref q_25, .int 0, .null, .int 0])), (q_1, .inl (cA_2, 120, .inl (fun _ => 0))), (q_3, .inl (cA_4, 410, .inl (fun _ => 0))), (q_5, .inl (cA_6, 40, .inl (fun _ => 0))), (q_7, .inl (cA_8, 40, .inl (fun _ => 0))), (q_9, .inl (cA_10, 10000, .inl (fun _ => 0))), (q_11, .inl (cA_12, 10000, .inl (fun _ => 0))), (q_13, .inl (cA_14, 50, .inl (fun _ => 0))), (q_15, .inl (cA_16, 50, .inl (fun _ => 0))), (q_17, .inl (cA_18, 50, .inl (fun _ => 0))), (q_19, .inl (cA_20, 2000, .inl (fun _ => 0))), (q_21, .inl (cA_22, 1407, .inl (fun _ => 0))), (q_23, .inl (cA_24, 50, .inl (fun _ => 0))), (q_25, .inl (cA_26, 40, .inl (fun _ => 0)))] H := hP
  replace hD : va_D A [(a_m, .inr (5, [.int 0, .ref q_1, .int 0, .int 0, .int 0, .ref q_3, .ref q_5, .ref q_7, .int 0, .ref q_9, .ref q_11, .ref q_13, .ref q_15, .ref q_17, .ref q_19, .ref q_21, .int 0, .ref q_23, .ref q_25, .int 0, .null, .int 0])), (q_1, .inl (cA_2, 120, .inl (fun _ => 0))), (q_3, .inl (cA_4, 410, .inl (fun _ => 0))), (q_5, .inl (cA_6, 40, .inl (fun _ => 0))), (q_7, .inl (cA_8, 40, .inl (fun _ => 0))), (q_9, .inl (cA_10, 10000, .inl (fun _ => 0))), (q_11, .inl (cA_12, 10000, .inl (fun _ => 0))), (q_13, .inl (cA_14, 50, .inl (fun _ => 0))), (q_15, .inl (cA_16, 50, .inl (fun _ => 0))), (q_17, .inl (cA_18, 50, .inl (fun _ => 0))), (q_19, .inl (cA_20, 2000, .inl (fun _ => 0))), (q_21, .inl (cA_22, 1407, .inl (fun _ => 0))), (q_23, .inl (cA_24, 50, .inl (fun _ => 0))), (q_25, .inl (cA_26, 40, .inl (fun _ => 0)))] := hD
  refine lv_aload_n hx hb d_M_init_113 rfl (lv_at hl 0 rfl) ?_
  refine lv_sipush (v := 1600) hx hb d_M_init_114 (by decide) ?_
  refine va_newa (D := (dC, dI)) (atype := .int) (ty := .int) (N' := 1600) (a0 := (1600, .inl (fun _ => 0))) hx hb (hts _ tw_153) rfl hK hP hD hS hA (fun _ => rfl) (by decide) (by decide) (by decide) (Nat.le_of_ble_eq_true rfl) (Nat.le_of_ble_eq_true rfl) d_M_init_117 (fun q_27 cA_28 H hK hP hD hS => ?_)
  refine W.widen (k := 14) (n := 25857) (by omega) (by omega) ?_
  replace hP : va_P (dC, dI) vwCl [(a_m, .inr (5, [.int 0, .ref q_1, .int 0, .int 0, .int 0, .ref q_3, .ref q_5, .ref q_7, .int 0, .ref q_9, .ref q_11, .ref q_13, .ref q_15, .ref q_17, .ref q_19, .ref q_21, .int 0, .ref q_23, .ref q_25, .int 0, .null, .int 0])), (q_1, .inl (cA_2, 120, .inl (fun _ => 0))), (q_3, .inl (cA_4, 410, .inl (fun _ => 0))), (q_5, .inl (cA_6, 40, .inl (fun _ => 0))), (q_7, .inl (cA_8, 40, .inl (fun _ => 0))), (q_9, .inl (cA_10, 10000, .inl (fun _ => 0))), (q_11, .inl (cA_12, 10000, .inl (fun _ => 0))), (q_13, .inl (cA_14, 50, .inl (fun _ => 0))), (q_15, .inl (cA_16, 50, .inl (fun _ => 0))), (q_17, .inl (cA_18, 50, .inl (fun _ => 0))), (q_19, .inl (cA_20, 2000, .inl (fun _ => 0))), (q_21, .inl (cA_22, 1407, .inl (fun _ => 0))), (q_23, .inl (cA_24, 50, .inl (fun _ => 0))), (q_25, .inl (cA_26, 40, .inl (fun _ => 0))), (q_27, .inl (cA_28, 1600, .inl (fun _ => 0)))] H := hP
  replace hD : va_D A [(a_m, .inr (5, [.int 0, .ref q_1, .int 0, .int 0, .int 0, .ref q_3, .ref q_5, .ref q_7, .int 0, .ref q_9, .ref q_11, .ref q_13, .ref q_15, .ref q_17, .ref q_19, .ref q_21, .int 0, .ref q_23, .ref q_25, .int 0, .null, .int 0])), (q_1, .inl (cA_2, 120, .inl (fun _ => 0))), (q_3, .inl (cA_4, 410, .inl (fun _ => 0))), (q_5, .inl (cA_6, 40, .inl (fun _ => 0))), (q_7, .inl (cA_8, 40, .inl (fun _ => 0))), (q_9, .inl (cA_10, 10000, .inl (fun _ => 0))), (q_11, .inl (cA_12, 10000, .inl (fun _ => 0))), (q_13, .inl (cA_14, 50, .inl (fun _ => 0))), (q_15, .inl (cA_16, 50, .inl (fun _ => 0))), (q_17, .inl (cA_18, 50, .inl (fun _ => 0))), (q_19, .inl (cA_20, 2000, .inl (fun _ => 0))), (q_21, .inl (cA_22, 1407, .inl (fun _ => 0))), (q_23, .inl (cA_24, 50, .inl (fun _ => 0))), (q_25, .inl (cA_26, 40, .inl (fun _ => 0))), (q_27, .inl (cA_28, 1600, .inl (fun _ => 0)))] := hD
  replace hK : va_K (dC, dI) vwCl [(cA_2, .byte), (cA_4, .int), (cA_6, .boolean), (cA_8, .boolean), (cA_10, .boolean), (cA_12, .boolean), (cA_14, .int), (cA_16, .int), (cA_18, .int), (cA_20, .int), (cA_22, .int), (cA_24, .int), (cA_26, .int), (cA_28, .int)] s := hK
  refine va_putF (D := (dC, dI)) (ci := 5) (v := .ref q_27) (ty := (.array .int)) (C := "LoanRulesModel") (T := Fz_M) (N := 22) hx hb hts it_M tz_M tz_M_ok nz_M hown hK hP hD hS 0 rfl rfl 20 (by decide) (hts _ tw_621) (fun _ h9 => h9) rfl hin rfl (by decide +kernel) rfl rfl (Nat.le_of_ble_eq_true rfl) d_M_init_119 (fun H locs hP hD hS => ?_)
  replace hP : va_P (dC, dI) vwCl [(a_m, .inr (5, [.int 0, .ref q_1, .int 0, .int 0, .int 0, .ref q_3, .ref q_5, .ref q_7, .int 0, .ref q_9, .ref q_11, .ref q_13, .ref q_15, .ref q_17, .ref q_19, .ref q_21, .int 0, .ref q_23, .ref q_25, .int 0, .ref q_27, .int 0])), (q_1, .inl (cA_2, 120, .inl (fun _ => 0))), (q_3, .inl (cA_4, 410, .inl (fun _ => 0))), (q_5, .inl (cA_6, 40, .inl (fun _ => 0))), (q_7, .inl (cA_8, 40, .inl (fun _ => 0))), (q_9, .inl (cA_10, 10000, .inl (fun _ => 0))), (q_11, .inl (cA_12, 10000, .inl (fun _ => 0))), (q_13, .inl (cA_14, 50, .inl (fun _ => 0))), (q_15, .inl (cA_16, 50, .inl (fun _ => 0))), (q_17, .inl (cA_18, 50, .inl (fun _ => 0))), (q_19, .inl (cA_20, 2000, .inl (fun _ => 0))), (q_21, .inl (cA_22, 1407, .inl (fun _ => 0))), (q_23, .inl (cA_24, 50, .inl (fun _ => 0))), (q_25, .inl (cA_26, 40, .inl (fun _ => 0))), (q_27, .inl (cA_28, 1600, .inl (fun _ => 0)))] H := hP
  replace hD : va_D A [(a_m, .inr (5, [.int 0, .ref q_1, .int 0, .int 0, .int 0, .ref q_3, .ref q_5, .ref q_7, .int 0, .ref q_9, .ref q_11, .ref q_13, .ref q_15, .ref q_17, .ref q_19, .ref q_21, .int 0, .ref q_23, .ref q_25, .int 0, .ref q_27, .int 0])), (q_1, .inl (cA_2, 120, .inl (fun _ => 0))), (q_3, .inl (cA_4, 410, .inl (fun _ => 0))), (q_5, .inl (cA_6, 40, .inl (fun _ => 0))), (q_7, .inl (cA_8, 40, .inl (fun _ => 0))), (q_9, .inl (cA_10, 10000, .inl (fun _ => 0))), (q_11, .inl (cA_12, 10000, .inl (fun _ => 0))), (q_13, .inl (cA_14, 50, .inl (fun _ => 0))), (q_15, .inl (cA_16, 50, .inl (fun _ => 0))), (q_17, .inl (cA_18, 50, .inl (fun _ => 0))), (q_19, .inl (cA_20, 2000, .inl (fun _ => 0))), (q_21, .inl (cA_22, 1407, .inl (fun _ => 0))), (q_23, .inl (cA_24, 50, .inl (fun _ => 0))), (q_25, .inl (cA_26, 40, .inl (fun _ => 0))), (q_27, .inl (cA_28, 1600, .inl (fun _ => 0)))] := hD
  have hP9 := hP.sub (ws' := [(a_m, .inr (5, [.int 0, .ref q_1, .int 0, .int 0, .int 0, .ref q_3, .ref q_5, .ref q_7, .int 0, .ref q_9, .ref q_11, .ref q_13, .ref q_15, .ref q_17, .ref q_19, .ref q_21, .int 0, .ref q_23, .ref q_25, .int 0, .ref q_27, .int 0])), (q_1, .inl (cA_2, 120, .inl (fun _ => 0))), (q_3, .inl (cA_4, 410, .inl (fun _ => 0))), (q_5, .inl (cA_6, 40, .inl (fun _ => 0))), (q_7, .inl (cA_8, 40, .inl (fun _ => 0))), (q_9, .inl (cA_10, 10000, .inl (fun _ => 0))), (q_11, .inl (cA_12, 10000, .inl (fun _ => 0))), (q_13, .inl (cA_14, 50, .inl (fun _ => 0))), (q_15, .inl (cA_16, 50, .inl (fun _ => 0))), (q_17, .inl (cA_18, 50, .inl (fun _ => 0))), (q_19, .inl (cA_20, 2000, .inl (fun _ => 0))), (q_21, .inl (cA_22, 1407, .inl (fun _ => 0))), (q_23, .inl (cA_24, 50, .inl (fun _ => 0))), (q_25, .inl (cA_26, 40, .inl (fun _ => 0))), (q_27, .inl (cA_28, 1600, .inl (fun _ => 0)))]) [0, 1, 2, 3, 4, 5, 6, 7, 8, 9, 10, 11, 12, 13, 14] rfl
  have hD9 := hD.sub (ws' := [(a_m, .inr (5, [.int 0, .ref q_1, .int 0, .int 0, .int 0, .ref q_3, .ref q_5, .ref q_7, .int 0, .ref q_9, .ref q_11, .ref q_13, .ref q_15, .ref q_17, .ref q_19, .ref q_21, .int 0, .ref q_23, .ref q_25, .int 0, .ref q_27, .int 0])), (q_1, .inl (cA_2, 120, .inl (fun _ => 0))), (q_3, .inl (cA_4, 410, .inl (fun _ => 0))), (q_5, .inl (cA_6, 40, .inl (fun _ => 0))), (q_7, .inl (cA_8, 40, .inl (fun _ => 0))), (q_9, .inl (cA_10, 10000, .inl (fun _ => 0))), (q_11, .inl (cA_12, 10000, .inl (fun _ => 0))), (q_13, .inl (cA_14, 50, .inl (fun _ => 0))), (q_15, .inl (cA_16, 50, .inl (fun _ => 0))), (q_17, .inl (cA_18, 50, .inl (fun _ => 0))), (q_19, .inl (cA_20, 2000, .inl (fun _ => 0))), (q_21, .inl (cA_22, 1407, .inl (fun _ => 0))), (q_23, .inl (cA_24, 50, .inl (fun _ => 0))), (q_25, .inl (cA_26, 40, .inl (fun _ => 0))), (q_27, .inl (cA_28, 1600, .inl (fun _ => 0)))]) [0, 1, 2, 3, 4, 5, 6, 7, 8, 9, 10, 11, 12, 13, 14] (by decide) rfl
  have hK9 := hK.sub (tys' := [(cA_2, .byte), (cA_4, .int), (cA_6, .boolean), (cA_8, .boolean), (cA_10, .boolean), (cA_12, .boolean), (cA_14, .int), (cA_16, .int), (cA_18, .int), (cA_20, .int), (cA_22, .int), (cA_24, .int), (cA_26, .int), (cA_28, .int)]) [0, 1, 2, 3, 4, 5, 6, 7, 8, 9, 10, 11, 12, 13] rfl
  exact W.vret hx hb hr (fun t ht hW => ⟨⟨(), rfl, trivial, q_1, q_3, q_5, q_7, q_9, q_11, q_13, q_15, q_17, q_19, q_21, q_23, q_25, q_27, cA_2, cA_4, cA_6, cA_8, cA_10, cA_12, cA_14, cA_16, cA_18, cA_20, cA_22, cA_24, cA_26, cA_28, by rw [ht]; exact hP9, va_K.moved hW.alike hK9, hD9⟩, hS.F ht⟩) hS.2.2 d_M_init_122
set_option maxHeartbeats 4000000 in
set_option maxRecDepth 100000 in
theorem c_Mo_thrown (l : Launch) (dC : Nat → ClassId) (dI : Nat → Nat → Nat) (adK adV : Nat → Nat) (a_m : Nat) (a_sa : Nat) (a_mr : Nat) (a_me : Nat) (a_le : Nat) (a_mc : Nat) (a_mt : Nat) (a_mk : Nat) (a_my : Nat) (a_mb : Nat) (a_mx : Nat) (a_ml : Nat) (a_mh : Nat) (a_mf : Nat) (a_mz : Nat) : Met l y_M_thrown ws_M_thrown ({ frames := 0, cells := 0, slots := 0, locals := 0 }) (va_Pc [.ref a_m] (fun U => zz adK adV (fun _ => False) U ∧ va_P (dC, dI) vwCl [(a_m, .inr (5, [.int 0, .ref a_sa, .int 0, .int 0, .int 0, .ref a_mr, .ref a_me, .ref a_le, .int 0, .ref a_mc, .ref a_mt, .ref a_mk, .ref a_my, .ref a_mb, .ref a_mx, .ref a_ml, .int 0, .ref a_mh, .ref a_mf, .int 0, .ref a_mz, .int 0]))] U.heap ∧ va_K (dC, dI) vwCl [] U)) (vp_Si (fun r => r = 0)) 0 0 (fun _ => False) := by
  refine Met.ofW (cc := c_M_thrown) (maxL := 1) (ret := (some .int)) (by decide) rfl ?_
  intro p e s m args below meth c s₁ B hml hv
  obtain ⟨rfl, hZ, hP, hK⟩ := hv
  have hx := B.exec
  have hb := B.bytes
  have hr := B.returns
  have hts0 := atoms_spec (ws := ws_M_thrown) B.pre
  have hts : ∀ w ∈ TT, w.before _ s = true := fun w h => hts0 w (List.mem_cons_of_mem _ h)
  have hown : s.vm.findClass "LoanRulesModel" = some m.cls := findClass_of_methodNamed B.named
  have hlocks := B.notSynchronized
  have hS : va_S (fun _ => False) s.heap s.heap [] := va_S.rf
  replace hP : va_P (dC, dI) vwCl [(a_m, .inr (5, [.int 0, .ref a_sa, .int 0, .int 0, .int 0, .ref a_mr, .ref a_me, .ref a_le, .int 0, .ref a_mc, .ref a_mt, .ref a_mk, .ref a_my, .ref a_mb, .ref a_mx, .ref a_ml, .int 0, .ref a_mh, .ref a_mf, .int 0, .ref a_mz, .int 0]))] s.heap := hP
  have hl := lv_entry ([.ref a_m]) (n := 1) (Nat.le_of_ble_eq_true rfl)
  rw [lg_entry_eq]
  generalize (lg_sl ([.ref a_m]) ++ List.replicate (1 - (lg_sl ([.ref a_m])).length) Slot.unset).toArray = ls at hl ⊢
  replace hl : lv_has ls 1 [(0, .ref a_m)] := hl
  refine lv_aload_n hx hb d_M_thrown_0 rfl (lv_at hl 0 rfl) ?_
  refine va_get (D := (dC, dI)) (ci := 5) (v := .int 0) (C := "LoanRulesModel") (T := Fz_M) (N := 22) hx hb hts it_M hown hK hP 0 rfl rfl 0 (by decide) (hts _ tw_601) (fun _ h9 => h9) rfl d_M_thrown_1 ?_
  exact W.iret (v := 0) hx hb hr (fun t ht hW => ⟨0, rfl, rfl, ht⟩) (fun _ h => by cases h) d_M_thrown_4
set_option maxHeartbeats 4000000 in
set_option maxRecDepth 100000 in
theorem c_Mo_sign (l : Launch) (dC : Nat → ClassId) (dI : Nat → Nat → Nat) (adK adV : Nat → Nat) (a_m : Nat) (a_sa : Nat) (k_sa : ClassId) (p0 : Int32) (a_mr : Nat) (a_me : Nat) (a_le : Nat) (a_mc : Nat) (a_mt : Nat) (a_mk : Nat) (a_my : Nat) (a_mb : Nat) (a_mx : Nat) (a_ml : Nat) (a_mh : Nat) (a_mf : Nat) (a_mz : Nat) (sz : Nat) : Met l y_M_sign ws_M_sign ({ frames := 0, cells := 0, slots := 0, locals := 0 }) (va_Pc [.ref a_m, .int p0] (fun U => U.heap.size = sz ∧ zz adK adV (va_A [(a_m, .inr (5, [.int 0, .ref a_sa, .int 0, .int 0, .int 0, .ref a_mr, .ref a_me, .ref a_le, .int 0, .ref a_mc, .ref a_mt, .ref a_mk, .ref a_my, .ref a_mb, .ref a_mx, .ref a_ml, .int 0, .ref a_mh, .ref a_mf, .int 0, .ref a_mz, .int 0])), (a_sa, .inl (k_sa, 120, .inl (fun _ => 0)))] sz) U ∧ va_P (dC, dI) vwCl [(a_m, .inr (5, [.int 0, .ref a_sa, .int 0, .int 0, .int 0, .ref a_mr, .ref a_me, .ref a_le, .int 0, .ref a_mc, .ref a_mt, .ref a_mk, .ref a_my, .ref a_mb, .ref a_mx, .ref a_ml, .int 0, .ref a_mh, .ref a_mf, .int 0, .ref a_mz, .int 0])), (a_sa, .inl (k_sa, 120, .inl (fun _ => 0)))] U.heap ∧ va_K (dC, dI) vwCl [(k_sa, .byte)] U ∧ va_D (fun _ => True) [(a_m, .inr (5, [.int 0, .ref a_sa, .int 0, .int 0, .int 0, .ref a_mr, .ref a_me, .ref a_le, .int 0, .ref a_mc, .ref a_mt, .ref a_mk, .ref a_my, .ref a_mb, .ref a_mx, .ref a_ml, .int 0, .ref a_mh, .ref a_mf, .int 0, .ref a_mz, .int 0])), (a_sa, .inl (k_sa, 120, .inl (fun _ => 0)))])) (va_Qv (fun _ : Unit => True) (fun (_ : Unit) (_ : State) => True) (va_A [(a_m, .inr (5, [.int 0, .ref a_sa, .int 0, .int 0, .int 0, .ref a_mr, .ref a_me, .ref a_le, .int 0, .ref a_mc, .ref a_mt, .ref a_mk, .ref a_my, .ref a_mb, .ref a_mx, .ref a_ml, .int 0, .ref a_mh, .ref a_mf, .int 0, .ref a_mz, .int 0])), (a_sa, .inl (k_sa, 120, .inl (fun _ => 0)))] sz)) 0 0 (va_A [(a_m, .inr (5, [.int 0, .ref a_sa, .int 0, .int 0, .int 0, .ref a_mr, .ref a_me, .ref a_le, .int 0, .ref a_mc, .ref a_mt, .ref a_mk, .ref a_my, .ref a_mb, .ref a_mx, .ref a_ml, .int 0, .ref a_mh, .ref a_mf, .int 0, .ref a_mz, .int 0])), (a_sa, .inl (k_sa, 120, .inl (fun _ => 0)))] sz) := by
  refine Met.ofW (cc := c_M_sign) (maxL := 2) (ret := none) (by decide) rfl ?_
  intro p e s m args below meth c s₁ B hml hv
  obtain ⟨rfl, hsz, hZ, hP, hK, hD0⟩ := hv
  have hx := B.exec
  have hb := B.bytes
  have hr := B.returns
  have hts0 := atoms_spec (ws := ws_M_sign) B.pre
  have hts : ∀ w ∈ TT, w.before _ s = true := fun w h => hts0 w (List.mem_cons_of_mem _ h)
  have hown : s.vm.findClass "LoanRulesModel" = some m.cls := findClass_of_methodNamed B.named
  have hlocks := B.notSynchronized
  subst hsz
  have hD := hD0.self (sz := s.heap.size)
  generalize hAe : va_A [(a_m, .inr (5, [.int 0, .ref a_sa, .int 0, .int 0, .int 0, .ref a_mr, .ref a_me, .ref a_le, .int 0, .ref a_mc, .ref a_mt, .ref a_mk, .ref a_my, .ref a_mb, .ref a_mx, .ref a_ml, .int 0, .ref a_mh, .ref a_mf, .int 0, .ref a_mz, .int 0])), (a_sa, .inl (k_sa, 120, .inl (fun _ => 0)))] s.heap.size = A at hD hZ ⊢
  have hA : ∀ q : Nat, s.heap.size ≤ q → A q := fun q h => by rw [← hAe]; exact Or.inr h
  clear hAe hD0
  have hS : va_S A s.heap s.heap [] := va_S.rf
  replace hP : va_P (dC, dI) vwCl [(a_m, .inr (5, [.int 0, .ref a_sa, .int 0, .int 0, .int 0, .ref a_mr, .ref a_me, .ref a_le, .int 0, .ref a_mc, .ref a_mt, .ref a_mk, .ref a_my, .ref a_mb, .ref a_mx, .ref a_ml, .int 0, .ref a_mh, .ref a_mf, .int 0, .ref a_mz, .int 0])), (a_sa, .inl (k_sa, 120, .inl (fun _ => 0)))] s.heap := hP
  have hl := lv_entry ([.ref a_m, .int p0]) (n := 2) (Nat.le_of_ble_eq_true rfl)
  rw [lg_entry_eq]
  generalize (lg_sl ([.ref a_m, .int p0]) ++ List.replicate (2 - (lg_sl ([.ref a_m, .int p0])).length) Slot.unset).toArray = ls at hl ⊢
  replace hl : lv_has ls 2 [(0, .ref a_m), (1, .int p0)] := hl
  refine lv_aload_n hx hb d_M_sign_0 rfl (lv_at hl 0 rfl) ?_
  refine lv_iconst (v := 0) hx hb d_M_sign_1 (by decide) ?_
  refine va_put (D := (dC, dI)) (ci := 5) (v := .int 0) (ty := .int) (C := "LoanRulesModel") (T := Fz_M) (N := 22) hx hb hts it_M tz_M tz_M_ok nz_M hown hK hP hD hS 0 rfl rfl 0 (by decide) (hts _ tw_601) (fun _ h9 => h9) rfl (by decide +kernel) rfl rfl (Nat.le_of_ble_eq_true rfl) d_M_sign_2 (fun H locs hP hD hS => ?_)
  replace hP : va_P (dC, dI) vwCl [(a_m, .inr (5, [.int 0, .ref a_sa, .int 0, .int 0, .int 0, .ref a_mr, .ref a_me, .ref a_le, .int 0, .ref a_mc, .ref a_mt, .ref a_mk, .ref a_my, .ref a_mb, .ref a_mx, .ref a_ml, .int 0, .ref a_mh, .ref a_mf, .int 0, .ref a_mz, .int 0])), (a_sa, .inl (k_sa, 120, .inl (fun _ => 0)))] H := hP
  replace hD : va_D A [(a_m, .inr (5, [.int 0, .ref a_sa, .int 0, .int 0, .int 0, .ref a_mr, .ref a_me, .ref a_le, .int 0, .ref a_mc, .ref a_mt, .ref a_mk, .ref a_my, .ref a_mb, .ref a_mx, .ref a_ml, .int 0, .ref a_mh, .ref a_mf, .int 0, .ref a_mz, .int 0])), (a_sa, .inl (k_sa, 120, .inl (fun _ => 0)))] := hD
  refine lv_aload_n hx hb d_M_sign_5 rfl (lv_at hl 0 rfl) ?_
  refine va_get (D := (dC, dI)) (ci := 5) (v := .int 0) (C := "LoanRulesModel") (T := Fz_M) (N := 22) hx hb hts it_M hown hK hP 0 rfl rfl 2 (by decide) (hts _ tw_603) (fun _ h9 => h9) rfl d_M_sign_6 ?_
  refine lv_bipush (v := 120) hx hb d_M_sign_9 (by decide) ?_
  refine lv_icmp_ge (tgt := 35) hx hb d_M_sign_11 (by decide) (fun c_1 => ?_) (fun c_1 => ?_)
  · exact absurd c_1 (by decide)
  · refine lv_aload_n hx hb d_M_sign_14 rfl (lv_at hl 0 rfl) ?_
    refine va_get (D := (dC, dI)) (ci := 5) (v := .ref a_sa) (C := "LoanRulesModel") (T := Fz_M) (N := 22) hx hb hts it_M hown hK hP 0 rfl rfl 1 (by decide) (hts _ tw_602) (fun _ h9 => h9) rfl d_M_sign_15 ?_
    refine lv_aload_n hx hb d_M_sign_18 rfl (lv_at hl 0 rfl) ?_
    refine va_get (D := (dC, dI)) (ci := 5) (v := .int 0) (C := "LoanRulesModel") (T := Fz_M) (N := 22) hx hb hts it_M hown hK hP 0 rfl rfl 2 (by decide) (hts _ tw_603) (fun _ h9 => h9) rfl d_M_sign_19 ?_
    refine lv_iload_n hx hb d_M_sign_22 rfl (lv_at hl 1 rfl) ?_
    refine lv_i2b hx hb d_M_sign_23 rfl ?_
    have i_2 : vp_in 0 120 := by show ¬ (_ ∨ _); decide
    refine va_bast (D := (dC, dI)) hx hb hK hP hD hS 1 0 rfl rfl i_2 d_M_sign_24 (fun H locs hP hD hS => ?_)
    replace hP : va_P (dC, dI) vwCl [(a_m, .inr (5, [.int 0, .ref a_sa, .int 0, .int 0, .int 0, .ref a_mr, .ref a_me, .ref a_le, .int 0, .ref a_mc, .ref a_mt, .ref a_mk, .ref a_my, .ref a_mb, .ref a_mx, .ref a_ml, .int 0, .ref a_mh, .ref a_mf, .int 0, .ref a_mz, .int 0])), (a_sa, .inl (k_sa, 120, .inl (upd (fun _ => 0) (0 : Int32).toNatClampNeg (vp_nar .byte p0.toInt8.toInt32))))] H := hP
    replace hD : va_D A [(a_m, .inr (5, [.int 0, .ref a_sa, .int 0, .int 0, .int 0, .ref a_mr, .ref a_me, .ref a_le, .int 0, .ref a_mc, .ref a_mt, .ref a_mk, .ref a_my, .ref a_mb, .ref a_mx, .ref a_ml, .int 0, .ref a_mh, .ref a_mf, .int 0, .ref a_mz, .int 0])), (a_sa, .inl (k_sa, 120, .inl (upd (fun _ => 0) (0 : Int32).toNatClampNeg (vp_nar .byte p0.toInt8.toInt32))))] := hD
    refine lv_aload_n hx hb d_M_sign_25 rfl (lv_at hl 0 rfl) ?_
    refine lv_dup hx hb d_M_sign_26 rfl ?_
    refine va_get (D := (dC, dI)) (ci := 5) (v := .int 0) (C := "LoanRulesModel") (T := Fz_M) (N := 22) hx hb hts it_M hown hK hP 0 rfl rfl 2 (by decide) (hts _ tw_603) (fun _ h9 => h9) rfl d_M_sign_27 ?_
    refine lv_iconst (v := 1) hx hb d_M_sign_30 (by decide) ?_
    refine lv_iadd hx hb d_M_sign_31 ?_
    refine lv_topi (fun x_3 ex_3 => ?_)
    obtain rfl : x_3 = 1 := ex_3.trans (by decide)
    refine va_put (D := (dC, dI)) (ci := 5) (v := .int 1) (ty := .int) (C := "LoanRulesModel") (T := Fz_M) (N := 22) hx hb hts it_M tz_M tz_M_ok nz_M hown hK hP hD hS 0 rfl rfl 2 (by decide) (hts _ tw_603) (fun _ h9 => h9) rfl (by decide +kernel) rfl rfl (Nat.le_of_ble_eq_true rfl) d_M_sign_32 (fun H locs hP hD hS => ?_)
    replace hP : va_P (dC, dI) vwCl [(a_m, .inr (5, [.int 0, .ref a_sa, .int 1, .int 0, .int 0, .ref a_mr, .ref a_me, .ref a_le, .int 0, .ref a_mc, .ref a_mt, .ref a_mk, .ref a_my, .ref a_mb, .ref a_mx, .ref a_ml, .int 0, .ref a_mh, .ref a_mf, .int 0, .ref a_mz, .int 0])), (a_sa, .inl (k_sa, 120, .inl (upd (fun _ => 0) (0 : Int32).toNatClampNeg (vp_nar .byte p0.toInt8.toInt32))))] H := hP
    replace hD : va_D A [(a_m, .inr (5, [.int 0, .ref a_sa, .int 1, .int 0, .int 0, .ref a_mr, .ref a_me, .ref a_le, .int 0, .ref a_mc, .ref a_mt, .ref a_mk, .ref a_my, .ref a_mb, .ref a_mx, .ref a_ml, .int 0, .ref a_mh, .ref a_mf, .int 0, .ref a_mz, .int 0])), (a_sa, .inl (k_sa, 120, .inl (upd (fun _ => 0) (0 : Int32).toNatClampNeg (vp_nar .byte p0.toInt8.toInt32))))] := hD
    exact W.vret hx hb hr (fun t ht hW => ⟨⟨(), rfl, trivial, trivial⟩, hS.F ht⟩) hS.2.2 d_M_sign_35
set_option maxHeartbeats 4000000 in
set_option maxRecDepth 100000 in
theorem c_Mo_look (l : Launch) (dC : Nat → ClassId) (dI : Nat → Nat → Nat) (adK adV : Nat → Nat) (a_m : Nat) (a_sa : Nat) (a_mr : Nat) (a_me : Nat) (a_le : Nat) (a_mc : Nat) (a_mt : Nat) (a_mk : Nat) (a_my : Nat) (a_mb : Nat) (a_mx : Nat) (a_ml : Nat) (a_mh : Nat) (a_mf : Nat) (a_mz : Nat) : Met l y_M_look ws_M_look ({ frames := 0, cells := 0, slots := 0, locals := 0 }) (va_Pc [.ref a_m, .int 0] (fun U => zz adK adV (fun _ => False) U ∧ va_P (dC, dI) vwCl [(a_m, .inr (5, [.int 0, .ref a_sa, .int 0, .int 0, .int 0, .ref a_mr, .ref a_me, .ref a_le, .int 0, .ref a_mc, .ref a_mt, .ref a_mk, .ref a_my, .ref a_mb, .ref a_mx, .ref a_ml, .int 0, .ref a_mh, .ref a_mf, .int 0, .ref a_mz, .int 0]))] U.heap ∧ va_K (dC, dI) vwCl [] U)) (vp_Si (fun r => r = (-1))) 0 0 (fun _ => False) := by
  refine Met.ofW (cc := c_M_look) (maxL := 2) (ret := (some .int)) (by decide) rfl ?_
  intro p e s m args below meth c s₁ B hml hv
  obtain ⟨rfl, hZ, hP, hK⟩ := hv
  have hx := B.exec
  have hb := B.bytes
  have hr := B.returns
  have hts0 := atoms_spec (ws := ws_M_look) B.pre
  have hts : ∀ w ∈ TT, w.before _ s = true := fun w h => hts0 w (List.mem_cons_of_mem _ h)
  have hown : s.vm.findClass "LoanRulesModel" = some m.cls := findClass_of_methodNamed B.named
  have hlocks := B.notSynchronized
  have hS : va_S (fun _ => False) s.heap s.heap [] := va_S.rf
  replace hP : va_P (dC, dI) vwCl [(a_m, .inr (5, [.int 0, .ref a_sa, .int 0, .int 0, .int 0, .ref a_mr, .ref a_me, .ref a_le, .int 0, .ref a_mc, .ref a_mt, .ref a_mk, .ref a_my, .ref a_mb, .ref a_mx, .ref a_ml, .int 0, .ref a_mh, .ref a_mf, .int 0, .ref a_mz, .int 0]))] s.heap := hP
  have hl := lv_entry ([.ref a_m, .int 0]) (n := 2) (Nat.le_of_ble_eq_true rfl)
  rw [lg_entry_eq]
  generalize (lg_sl ([.ref a_m, .int 0]) ++ List.replicate (2 - (lg_sl ([.ref a_m, .int 0])).length) Slot.unset).toArray = ls at hl ⊢
  replace hl : lv_has ls 2 [(0, .ref a_m), (1, .int 0)] := hl
  refine lv_iload_n hx hb d_M_look_0 rfl (lv_at hl 1 rfl) ?_
  refine lv_aload_n hx hb d_M_look_1 rfl (lv_at hl 0 rfl) ?_
  refine va_get (D := (dC, dI)) (ci := 5) (v := .int 0) (C := "LoanRulesModel") (T := Fz_M) (N := 22) hx hb hts it_M hown hK hP 0 rfl rfl 2 (by decide) (hts _ tw_603) (fun _ h9 => h9) rfl d_M_look_2 ?_
  refine lv_icmp_ge (tgt := 21) hx hb d_M_look_5 (by decide) (fun c_1 => ?_) (fun c_1 => ?_)
  · refine lv_iconst (v := (-1)) hx hb d_M_look_21 (by decide) ?_
    exact W.iret (v := (-1)) hx hb hr (fun t ht hW => ⟨(-1), rfl, rfl, ht⟩) (fun _ h => by cases h) d_M_look_22
  · exact absurd (by decide) c_1
set_option maxHeartbeats 4000000 in
set_option maxRecDepth 100000 in
theorem c_Mo_word (l : Launch) (dC : Nat → ClassId) (dI : Nat → Nat → Nat) (adK adV : Nat → Nat) (a_m : Nat) (a_sa : Nat) (a_mr : Nat) (a_me : Nat) (a_le : Nat) (a_mc : Nat) (a_mt : Nat) (a_mk : Nat) (a_my : Nat) (a_mb : Nat) (a_mx : Nat) (a_ml : Nat) (a_mh : Nat) (a_mf : Nat) (a_mz : Nat) : Met l y_M_word ws_M_word ({ frames := 1, cells := 0, slots := 0, locals := 21 }) (va_Pc [.ref a_m] (fun U => zz adK adV (fun _ => False) U ∧ va_P (dC, dI) vwCl [(a_m, .inr (5, [.int 0, .ref a_sa, .int 0, .int 0, .int 0, .ref a_mr, .ref a_me, .ref a_le, .int 0, .ref a_mc, .ref a_mt, .ref a_mk, .ref a_my, .ref a_mb, .ref a_mx, .ref a_ml, .int 0, .ref a_mh, .ref a_mf, .int 0, .ref a_mz, .int 0]))] U.heap ∧ va_K (dC, dI) vwCl [] U)) (vp_Sl (fun r => r = 0)) 0 0 (fun _ => False) := by
  refine Met.ofW (cc := c_M_word) (maxL := 4) (ret := (some .long)) (by decide) rfl ?_
  intro p e s m args below meth c s₁ B hml hv
  obtain ⟨rfl, hZ, hP, hK⟩ := hv
  have hx := B.exec
  have hb := B.bytes
  have hr := B.returns
  have hts0 := atoms_spec (ws := ws_M_word) B.pre
  have hts : ∀ w ∈ TT, w.before _ s = true := fun w h => hts0 w (List.mem_cons_of_mem _ h)
  have hown : s.vm.findClass "LoanRulesModel" = some m.cls := findClass_of_methodNamed B.named
  have hlocks := B.notSynchronized
  have hS : va_S (fun _ => False) s.heap s.heap [] := va_S.rf
  replace hP : va_P (dC, dI) vwCl [(a_m, .inr (5, [.int 0, .ref a_sa, .int 0, .int 0, .int 0, .ref a_mr, .ref a_me, .ref a_le, .int 0, .ref a_mc, .ref a_mt, .ref a_mk, .ref a_my, .ref a_mb, .ref a_mx, .ref a_ml, .int 0, .ref a_mh, .ref a_mf, .int 0, .ref a_mz, .int 0]))] s.heap := hP
  have hl := lv_entry ([.ref a_m]) (n := 4) (Nat.le_of_ble_eq_true rfl)
  rw [lg_entry_eq]
  generalize (lg_sl ([.ref a_m]) ++ List.replicate (4 - (lg_sl ([.ref a_m])).length) Slot.unset).toArray = ls at hl ⊢
  replace hl : lv_has ls 4 [(0, .ref a_m)] := hl
  refine lv_lconst (v := 0) hx hb d_M_word_0 rfl ?_
  refine lv_lstore_n (lv' := [(1, .long 0), (0, .ref a_m)]) hx hb d_M_word_1 rfl hl (by decide) rfl (fun ls hl => ?_)
  refine lv_aload_n hx hb d_M_word_2 rfl (lv_at hl 1 rfl) ?_
  refine va_get (D := (dC, dI)) (ci := 5) (v := .int 0) (C := "LoanRulesModel") (T := Fz_M) (N := 22) hx hb hts it_M hown hK hP 0 rfl rfl 3 (by decide) (hts _ tw_604) (fun _ h9 => h9) rfl d_M_word_3 ?_
  refine lv_istore_n (lv' := [(3, .int 0), (1, .long 0), (0, .ref a_m)]) hx hb d_M_word_6 rfl hl (by decide) rfl (fun ls hl => ?_)
  refine lv_aload_n hx hb d_M_word_7 rfl (lv_at hl 2 rfl) ?_
  refine lv_iload_n hx hb d_M_word_8 rfl (lv_at hl 0 rfl) ?_
  have hPc := hP.sub (ws' := [(a_m, .inr (5, [.int 0, .ref a_sa, .int 0, .int 0, .int 0, .ref a_mr, .ref a_me, .ref a_le, .int 0, .ref a_mc, .ref a_mt, .ref a_mk, .ref a_my, .ref a_mb, .ref a_mx, .ref a_ml, .int 0, .ref a_mh, .ref a_mf, .int 0, .ref a_mz, .int 0]))]) [0] rfl
  have hKc := hK.sub (tys' := []) [] rfl
  refine vp_callSi (va_Run.run (va_runV (As := [.int 0]) (rest := []) ⟨hx, hb, hml, hown, hts⟩ (c_Mo_look l dC dI adK adV (a_m := a_m) (a_sa := a_sa) (a_mr := a_mr) (a_me := a_me) (a_le := a_le) (a_mc := a_mc) (a_mt := a_mt) (a_mk := a_mk) (a_my := a_my) (a_mb := a_mb) (a_mx := a_mx) (a_ml := a_ml) (a_mh := a_mh) (a_mf := a_mf) (a_mz := a_mz)) (cwV 1 hts (gV tw_688 tw_690 tw_27 tw_46 tw_691) rfl rfl rfl (by decide +kernel) ⟨(Nat.le_of_ble_eq_true rfl), (Nat.le_of_ble_eq_true rfl)⟩) ⟨fun a U g mk q => by obtain ⟨q0, qZ, qP, qK⟩ := q; exact ⟨q0, zz_call qZ, qP, va_K.moved (u := U) (U := U.calling g mk a) (Vm.Alike.refl U.vm) qK⟩, va_recv hKc hPc (ci := 5) (q0 := 0) rfl rfl, fun U hU hW => ⟨rfl, zz_rr hU hW hZ, by rw [hU]; exact hPc, va_K.moved hW.alike hKc⟩⟩ rfl rfl hl.1 rfl (lv_room (Nat.le_of_ble_eq_true rfl)) d_M_word_9 ⟨(Nat.le_of_ble_eq_true rfl), (Nat.le_of_ble_eq_true rfl)⟩)) (fun r_1 hw_2 => ?_)
  obtain rfl : r_1 = (-1) := hw_2
  refine lv_bipush (v := 97) hx hb d_M_word_12 (by decide) ?_
  refine lv_icmp_lt (tgt := 67) hx hb d_M_word_14 (by decide) (fun c_3 => ?_) (fun c_3 => ?_)
  · refine lv_lload_n hx hb d_M_word_67 rfl (lv_at hl 1 rfl) ?_
    exact W.lret (v := 0) hx hb hr (fun t ht hW => ⟨0, rfl, rfl, ht⟩) (fun _ h => by cases h) d_M_word_68
  · exact absurd (by decide) c_3
set_option maxHeartbeats 4000000 in
set_option maxRecDepth 100000 in
theorem c_Mo_bad (l : Launch) (dC : Nat → ClassId) (dI : Nat → Nat → Nat) (adK adV : Nat → Nat) (a_m : Nat) (p0 : Int32) (a_sa : Nat) (a_mr : Nat) (a_me : Nat) (a_le : Nat) (a_mc : Nat) (a_mt : Nat) (a_mk : Nat) (a_my : Nat) (a_mb : Nat) (a_mx : Nat) (a_ml : Nat) (a_mh : Nat) (a_mf : Nat) (a_mz : Nat) (sz : Nat) : Met l y_M_bad ws_M_bad ({ frames := 0, cells := 0, slots := 0, locals := 0 }) (va_Pc [.ref a_m, .int p0] (fun U => U.heap.size = sz ∧ zz adK adV (va_A [(a_m, .inr (5, [.int 0, .ref a_sa, .int 0, .int 0, .int 0, .ref a_mr, .ref a_me, .ref a_le, .int 0, .ref a_mc, .ref a_mt, .ref a_mk, .ref a_my, .ref a_mb, .ref a_mx, .ref a_ml, .int 0, .ref a_mh, .ref a_mf, .int 0, .ref a_mz, .int 0]))] sz) U ∧ va_P (dC, dI) vwCl [(a_m, .inr (5, [.int 0, .ref a_sa, .int 0, .int 0, .int 0, .ref a_mr, .ref a_me, .ref a_le, .int 0, .ref a_mc, .ref a_mt, .ref a_mk, .ref a_my, .ref a_mb, .ref a_mx, .ref a_ml, .int 0, .ref a_mh, .ref a_mf, .int 0, .ref a_mz, .int 0]))] U.heap ∧ va_K (dC, dI) vwCl [] U ∧ va_D (fun _ => True) [(a_m, .inr (5, [.int 0, .ref a_sa, .int 0, .int 0, .int 0, .ref a_mr, .ref a_me, .ref a_le, .int 0, .ref a_mc, .ref a_mt, .ref a_mk, .ref a_my, .ref a_mb, .ref a_mx, .ref a_ml, .int 0, .ref a_mh, .ref a_mf, .int 0, .ref a_mz, .int 0]))])) (va_Qi (fun (r : Int32) (_ : Unit) => r = 0) (fun (_ : Unit) (t : State) => va_P (dC, dI) vwCl [(a_m, .inr (5, [.int 0, .ref a_sa, .int 0, .int 0, .int p0, .ref a_mr, .ref a_me, .ref a_le, .int 0, .ref a_mc, .ref a_mt, .ref a_mk, .ref a_my, .ref a_mb, .ref a_mx, .ref a_ml, .int 0, .ref a_mh, .ref a_mf, .int 0, .ref a_mz, .int 0]))] t.heap ∧ va_K (dC, dI) vwCl [] t ∧ va_D (va_A [(a_m, .inr (5, [.int 0, .ref a_sa, .int 0, .int 0, .int 0, .ref a_mr, .ref a_me, .ref a_le, .int 0, .ref a_mc, .ref a_mt, .ref a_mk, .ref a_my, .ref a_mb, .ref a_mx, .ref a_ml, .int 0, .ref a_mh, .ref a_mf, .int 0, .ref a_mz, .int 0]))] sz) [(a_m, .inr (5, [.int 0, .ref a_sa, .int 0, .int 0, .int p0, .ref a_mr, .ref a_me, .ref a_le, .int 0, .ref a_mc, .ref a_mt, .ref a_mk, .ref a_my, .ref a_mb, .ref a_mx, .ref a_ml, .int 0, .ref a_mh, .ref a_mf, .int 0, .ref a_mz, .int 0]))]) (va_A [(a_m, .inr (5, [.int 0, .ref a_sa, .int 0, .int 0, .int 0, .ref a_mr, .ref a_me, .ref a_le, .int 0, .ref a_mc, .ref a_mt, .ref a_mk, .ref a_my, .ref a_mb, .ref a_mx, .ref a_ml, .int 0, .ref a_mh, .ref a_mf, .int 0, .ref a_mz, .int 0]))] sz)) 0 0 (va_A [(a_m, .inr (5, [.int 0, .ref a_sa, .int 0, .int 0, .int 0, .ref a_mr, .ref a_me, .ref a_le, .int 0, .ref a_mc, .ref a_mt, .ref a_mk, .ref a_my, .ref a_mb, .ref a_mx, .ref a_ml, .int 0, .ref a_mh, .ref a_mf, .int 0, .ref a_mz, .int 0]))] sz) := by
  refine Met.ofW (cc := c_M_bad) (maxL := 2) (ret := (some .boolean)) (by decide) rfl ?_
  intro p e s m args below meth c s₁ B hml hv
  obtain ⟨rfl, hsz, hZ, hP, hK, hD0⟩ := hv
  have hx := B.exec
  have hb := B.bytes
  have hr := B.returns
  have hts0 := atoms_spec (ws := ws_M_bad) B.pre
  have hts : ∀ w ∈ TT, w.before _ s = true := fun w h => hts0 w (List.mem_cons_of_mem _ h)
  have hown : s.vm.findClass "LoanRulesModel" = some m.cls := findClass_of_methodNamed B.named
  have hlocks := B.notSynchronized
  subst hsz
  have hD := hD0.self (sz := s.heap.size)
  generalize hAe : va_A [(a_m, .inr (5, [.int 0, .ref a_sa, .int 0, .int 0, .int 0, .ref a_mr, .ref a_me, .ref a_le, .int 0, .ref a_mc, .ref a_mt, .ref a_mk, .ref a_my, .ref a_mb, .ref a_mx, .ref a_ml, .int 0, .ref a_mh, .ref a_mf, .int 0, .ref a_mz, .int 0]))] s.heap.size = A at hD hZ ⊢
  have hA : ∀ q : Nat, s.heap.size ≤ q → A q := fun q h => by rw [← hAe]; exact Or.inr h
  clear hAe hD0
  have hS : va_S A s.heap s.heap [] := va_S.rf
  replace hP : va_P (dC, dI) vwCl [(a_m, .inr (5, [.int 0, .ref a_sa, .int 0, .int 0, .int 0, .ref a_mr, .ref a_me, .ref a_le, .int 0, .ref a_mc, .ref a_mt, .ref a_mk, .ref a_my, .ref a_mb, .ref a_mx, .ref a_ml, .int 0, .ref a_mh, .ref a_mf, .int 0, .ref a_mz, .int 0]))] s.heap := hP
  have hl := lv_entry ([.ref a_m, .int p0]) (n := 2) (Nat.le_of_ble_eq_true rfl)
  rw [lg_entry_eq]
  generalize (lg_sl ([.ref a_m, .int p0]) ++ List.replicate (2 - (lg_sl ([.ref a_m, .int p0])).length) Slot.unset).toArray = ls at hl ⊢
  replace hl : lv_has ls 2 [(0, .ref a_m), (1, .int p0)] := hl
  refine lv_aload_n hx hb d_M_bad_0 rfl (lv_at hl 0 rfl) ?_
  refine lv_iload_n hx hb d_M_bad_1 rfl (lv_at hl 1 rfl) ?_
  refine va_put (D := (dC, dI)) (ci := 5) (v := .int p0) (ty := .int) (C := "LoanRulesModel") (T := Fz_M) (N := 22) hx hb hts it_M tz_M tz_M_ok nz_M hown hK hP hD hS 0 rfl rfl 4 (by decide) (hts _ tw_605) (fun _ h9 => h9) rfl (by decide +kernel) rfl rfl (Nat.le_of_ble_eq_true rfl) d_M_bad_2 (fun H locs hP hD hS => ?_)
  replace hP : va_P (dC, dI) vwCl [(a_m, .inr (5, [.int 0, .ref a_sa, .int 0, .int 0, .int p0, .ref a_mr, .ref a_me, .ref a_le, .int 0, .ref a_mc, .ref a_mt, .ref a_mk, .ref a_my, .ref a_mb, .ref a_mx, .ref a_ml, .int 0, .ref a_mh, .ref a_mf, .int 0, .ref a_mz, .int 0]))] H := hP
  replace hD : va_D A [(a_m, .inr (5, [.int 0, .ref a_sa, .int 0, .int 0, .int p0, .ref a_mr, .ref a_me, .ref a_le, .int 0, .ref a_mc, .ref a_mt, .ref a_mk, .ref a_my, .ref a_mb, .ref a_mx, .ref a_ml, .int 0, .ref a_mh, .ref a_mf, .int 0, .ref a_mz, .int 0]))] := hD
  refine lv_iconst (v := 0) hx hb d_M_bad_5 (by decide) ?_
  have hP9 := hP.sub (ws' := [(a_m, .inr (5, [.int 0, .ref a_sa, .int 0, .int 0, .int p0, .ref a_mr, .ref a_me, .ref a_le, .int 0, .ref a_mc, .ref a_mt, .ref a_mk, .ref a_my, .ref a_mb, .ref a_mx, .ref a_ml, .int 0, .ref a_mh, .ref a_mf, .int 0, .ref a_mz, .int 0]))]) [0] rfl
  have hD9 := hD.sub (ws' := [(a_m, .inr (5, [.int 0, .ref a_sa, .int 0, .int 0, .int p0, .ref a_mr, .ref a_me, .ref a_le, .int 0, .ref a_mc, .ref a_mt, .ref a_mk, .ref a_my, .ref a_mb, .ref a_mx, .ref a_ml, .int 0, .ref a_mh, .ref a_mf, .int 0, .ref a_mz, .int 0]))]) [0] (by decide) rfl
  have hK9 := hK.sub (tys' := []) [] rfl
  exact W.zret (v := 0) hx hb hr rfl (fun t ht hW => ⟨⟨0, (), rfl, rfl, by rw [ht]; exact hP9, va_K.moved hW.alike hK9, hD9⟩, hS.F ht⟩) hS.2.2 d_M_bad_6
set_option maxHeartbeats 4000000 in
set_option maxRecDepth 100000 in
theorem c_Mo_step (l : Launch) (dC : Nat → ClassId) (dI : Nat → Nat → Nat) (adK adV : Nat → Nat) : Met l y_M_step ws_M_step ({ frames := 0, cells := 0, slots := 0, locals := 0 }) (va_Pc [.long 0] (fun U => zz adK adV (fun _ => False) U ∧ va_P (dC, dI) vwCl [] U.heap ∧ va_K (dC, dI) vwCl [] U)) (vp_Si (fun r => r = 0)) 0 0 (fun _ => False) := by
  refine Met.ofW (cc := c_M_step) (maxL := 2) (ret := (some .int)) (by decide) rfl ?_
  intro p e s m args below meth c s₁ B hml hv
  obtain ⟨rfl, hZ, hP, hK⟩ := hv
  have hx := B.exec
  have hb := B.bytes
  have hr := B.returns
  have hts0 := atoms_spec (ws := ws_M_step) B.pre
  have hts : ∀ w ∈ TT, w.before _ s = true := fun w h => hts0 w (List.mem_cons_of_mem _ h)
  have hown : s.vm.findClass "LoanRulesModel" = some m.cls := findClass_of_methodNamed B.named
  have hlocks := B.notSynchronized
  have hS : va_S (fun _ => False) s.heap s.heap [] := va_S.rf
  replace hP : va_P (dC, dI) vwCl [] s.heap := hP
  have hl := lv_entry ([.long 0]) (n := 2) (Nat.le_of_ble_eq_true rfl)
  rw [lg_entry_eq]
  generalize (lg_sl ([.long 0]) ++ List.replicate (2 - (lg_sl ([.long 0])).length) Slot.unset).toArray = ls at hl ⊢
  replace hl : lv_has ls 2 [(0, .long 0)] := hl
  refine lv_lload_n hx hb d_M_step_0 rfl (lv_at hl 0 rfl) ?_
  refine lv_ldc2 (v := 370116) hx hb hown (hts _ tw_706) d_M_step_1 ?_
  refine W.lcmp hx hb d_M_step_4 ?_
  refine lv_topi (fun x_1 ex_1 => ?_)
  obtain rfl : x_1 = (-1) := ex_1.trans (by decide)
  refine lv_if_ne (tgt := 12) hx hb d_M_step_5 (by decide) (fun c_2 => ?_) (fun c_2 => ?_)
  · refine lv_lload_n hx hb d_M_step_12 rfl (lv_at hl 0 rfl) ?_
    refine lv_ldc2 (v := 681477) hx hb hown (hts _ tw_707) d_M_step_13 ?_
    refine W.lcmp hx hb d_M_step_16 ?_
    refine lv_topi (fun x_3 ex_3 => ?_)
    obtain rfl : x_3 = (-1) := ex_3.trans (by decide)
    refine lv_if_ne (tgt := 24) hx hb d_M_step_17 (by decide) (fun c_4 => ?_) (fun c_4 => ?_)
    · refine lv_lload_n hx hb d_M_step_24 rfl (lv_at hl 0 rfl) ?_
      refine lv_ldc2 (v := 542723566) hx hb hown (hts _ tw_708) d_M_step_25 ?_
      refine W.lcmp hx hb d_M_step_28 ?_
      refine lv_topi (fun x_5 ex_5 => ?_)
      obtain rfl : x_5 = (-1) := ex_5.trans (by decide)
      refine lv_if_ne (tgt := 36) hx hb d_M_step_29 (by decide) (fun c_6 => ?_) (fun c_6 => ?_)
      · refine lv_lload_n hx hb d_M_step_36 rfl (lv_at hl 0 rfl) ?_
        refine lv_ldc2 (v := 398788) hx hb hown (hts _ tw_709) d_M_step_37 ?_
        refine W.lcmp hx hb d_M_step_40 ?_
        refine lv_topi (fun x_7 ex_7 => ?_)
        obtain rfl : x_7 = (-1) := ex_7.trans (by decide)
        refine lv_if_ne (tgt := 48) hx hb d_M_step_41 (by decide) (fun c_8 => ?_) (fun c_8 => ?_)
        · refine lv_lload_n hx hb d_M_step_48 rfl (lv_at hl 0 rfl) ?_
          refine lv_ldc2 (v := 609441381) hx hb hown (hts _ tw_710) d_M_step_49 ?_
          refine W.lcmp hx hb d_M_step_52 ?_
          refine lv_topi (fun x_9 ex_9 => ?_)
          obtain rfl : x_9 = (-1) := ex_9.trans (by decide)
          refine lv_if_ne (tgt := 60) hx hb d_M_step_53 (by decide) (fun c_10 => ?_) (fun c_10 => ?_)
          · refine lv_lload_n hx hb d_M_step_60 rfl (lv_at hl 0 rfl) ?_
            refine lv_ldc2 (v := 197932) hx hb hown (hts _ tw_711) d_M_step_61 ?_
            refine W.lcmp hx hb d_M_step_64 ?_
            refine lv_topi (fun x_11 ex_11 => ?_)
            obtain rfl : x_11 = (-1) := ex_11.trans (by decide)
            refine lv_if_ne (tgt := 73) hx hb d_M_step_65 (by decide) (fun c_12 => ?_) (fun c_12 => ?_)
            · refine lv_lload_n hx hb d_M_step_73 rfl (lv_at hl 0 rfl) ?_
              refine lv_ldc2 (v := 19052727) hx hb hown (hts _ tw_712) d_M_step_74 ?_
              refine W.lcmp hx hb d_M_step_77 ?_
              refine lv_topi (fun x_13 ex_13 => ?_)
              obtain rfl : x_13 = (-1) := ex_13.trans (by decide)
              refine lv_if_ne (tgt := 86) hx hb d_M_step_78 (by decide) (fun c_14 => ?_) (fun c_14 => ?_)
              · refine lv_lload_n hx hb d_M_step_86 rfl (lv_at hl 0 rfl) ?_
                refine lv_ldc2 (v := 7216) hx hb hown (hts _ tw_713) d_M_step_87 ?_
                refine W.lcmp hx hb d_M_step_90 ?_
                refine lv_topi (fun x_15 ex_15 => ?_)
                obtain rfl : x_15 = (-1) := ex_15.trans (by decide)
                refine lv_if_ne (tgt := 99) hx hb d_M_step_91 (by decide) (fun c_16 => ?_) (fun c_16 => ?_)
                · refine lv_lload_n hx hb d_M_step_99 rfl (lv_at hl 0 rfl) ?_
                  refine lv_ldc2 (v := 609322380) hx hb hown (hts _ tw_714) d_M_step_100 ?_
                  refine W.lcmp hx hb d_M_step_103 ?_
                  refine lv_topi (fun x_17 ex_17 => ?_)
                  obtain rfl : x_17 = (-1) := ex_17.trans (by decide)
                  refine lv_if_ne (tgt := 112) hx hb d_M_step_104 (by decide) (fun c_18 => ?_) (fun c_18 => ?_)
                  · refine lv_lload_n hx hb d_M_step_112 rfl (lv_at hl 0 rfl) ?_
                    refine lv_ldc2 (v := 591307) hx hb hown (hts _ tw_715) d_M_step_113 ?_
                    refine W.lcmp hx hb d_M_step_116 ?_
                    refine lv_topi (fun x_19 ex_19 => ?_)
                    obtain rfl : x_19 = (-1) := ex_19.trans (by decide)
                    refine lv_if_ne (tgt := 125) hx hb d_M_step_117 (by decide) (fun c_20 => ?_) (fun c_20 => ?_)
                    · refine lv_iconst (v := 0) hx hb d_M_step_125 (by decide) ?_
                      exact W.iret (v := 0) hx hb hr (fun t ht hW => ⟨0, rfl, rfl, ht⟩) (fun _ h => by cases h) d_M_step_126
                    · exact absurd c_20 (by decide)
                  · exact absurd c_18 (by decide)
                · exact absurd c_16 (by decide)
              · exact absurd c_14 (by decide)
            · exact absurd c_12 (by decide)
          · exact absurd c_10 (by decide)
        · exact absurd c_8 (by decide)
      · exact absurd c_6 (by decide)
    · exact absurd c_4 (by decide)
  · exact absurd c_2 (by decide)
set_option maxHeartbeats 4000000 in
set_option maxRecDepth 100000 in
theorem c_Mo_reads (l : Launch) (dC : Nat → ClassId) (dI : Nat → Nat → Nat) (adK adV : Nat → Nat) (a_m : Nat) (a_mr : Nat) (k_mr : ClassId) (a_sa : Nat) (a_me : Nat) (a_le : Nat) (a_mc : Nat) (a_mt : Nat) (a_mk : Nat) (a_my : Nat) (a_mb : Nat) (a_mx : Nat) (a_ml : Nat) (a_mh : Nat) (a_mf : Nat) (a_mz : Nat) (sz : Nat) : Met l y_M_reads ws_M_reads ({ frames := 2, cells := 0, slots := 0, locals := 44 }) (va_Pc [.ref a_m] (fun U => U.heap.size = sz ∧ zz adK adV (va_A [(a_m, .inr (5, [.int 0, .ref a_sa, .int 0, .int 0, .int 0, .ref a_mr, .ref a_me, .ref a_le, .int 0, .ref a_mc, .ref a_mt, .ref a_mk, .ref a_my, .ref a_mb, .ref a_mx, .ref a_ml, .int 0, .ref a_mh, .ref a_mf, .int 0, .ref a_mz, .int 0])), (a_mr, .inl (k_mr, 410, .inl (fun _ => 0)))] sz) U ∧ va_P (dC, dI) vwCl [(a_m, .inr (5, [.int 0, .ref a_sa, .int 0, .int 0, .int 0, .ref a_mr, .ref a_me, .ref a_le, .int 0, .ref a_mc, .ref a_mt, .ref a_mk, .ref a_my, .ref a_mb, .ref a_mx, .ref a_ml, .int 0, .ref a_mh, .ref a_mf, .int 0, .ref a_mz, .int 0])), (a_mr, .inl (k_mr, 410, .inl (fun _ => 0)))] U.heap ∧ va_K (dC, dI) vwCl [(k_mr, .int)] U ∧ va_D (fun _ => True) [(a_m, .inr (5, [.int 0, .ref a_sa, .int 0, .int 0, .int 0, .ref a_mr, .ref a_me, .ref a_le, .int 0, .ref a_mc, .ref a_mt, .ref a_mk, .ref a_my, .ref a_mb, .ref a_mx, .ref a_ml, .int 0, .ref a_mh, .ref a_mf, .int 0, .ref a_mz, .int 0])), (a_mr, .inl (k_mr, 410, .inl (fun _ => 0)))])) (va_Qi (fun (r : Int32) (_ : Unit) => r = 0) (fun (_ : Unit) (t : State) => va_P (dC, dI) vwCl [(a_m, .inr (5, [.int 0, .ref a_sa, .int 0, .int 0, .int 0, .ref a_mr, .ref a_me, .ref a_le, .int 0, .ref a_mc, .ref a_mt, .ref a_mk, .ref a_my, .ref a_mb, .ref a_mx, .ref a_ml, .int 0, .ref a_mh, .ref a_mf, .int 0, .ref a_mz, .int 0]))] t.heap ∧ va_K (dC, dI) vwCl [] t ∧ va_D (va_A [(a_m, .inr (5, [.int 0, .ref a_sa, .int 0, .int 0, .int 0, .ref a_mr, .ref a_me, .ref a_le, .int 0, .ref a_mc, .ref a_mt, .ref a_mk, .ref a_my, .ref a_mb, .ref a_mx, .ref a_ml, .int 0, .ref a_mh, .ref a_mf, .int 0, .ref a_mz, .int 0])), (a_mr, .inl (k_mr, 410, .inl (fun _ => 0)))] sz) [(a_m, .inr (5, [.int 0, .ref a_sa, .int 0, .int 0, .int 0, .ref a_mr, .ref a_me, .ref a_le, .int 0, .ref a_mc, .ref a_mt, .ref a_mk, .ref a_my, .ref a_mb, .ref a_mx, .ref a_ml, .int 0, .ref a_mh, .ref a_mf, .int 0, .ref a_mz, .int 0]))]) (va_A [(a_m, .inr (5, [.int 0, .ref a_sa, .int 0, .int 0, .int 0, .ref a_mr, .ref a_me, .ref a_le, .int 0, .ref a_mc, .ref a_mt, .ref a_mk, .ref a_my, .ref a_mb, .ref a_mx, .ref a_ml, .int 0, .ref a_mh, .ref a_mf, .int 0, .ref a_mz, .int 0])), (a_mr, .inl (k_mr, 410, .inl (fun _ => 0)))] sz)) 0 0 (va_A [(a_m, .inr (5, [.int 0, .ref a_sa, .int 0, .int 0, .int 0, .ref a_mr, .ref a_me, .ref a_le, .int 0, .ref a_mc, .ref a_mt, .ref a_mk, .ref a_my, .ref a_mb, .ref a_mx, .ref a_ml, .int 0, .ref a_mh, .ref a_mf, .int 0, .ref a_mz, .int 0])), (a_mr, .inl (k_mr, 410, .inl (fun _ => 0)))] sz) := by
  refine Met.ofW (cc := c_M_reads) (maxL := 4) (ret := (some .boolean)) (by decide) rfl ?_
  intro p e s m args below meth c s₁ B hml hv
  obtain ⟨rfl, hsz, hZ, hP, hK, hD0⟩ := hv
  have hx := B.exec
  have hb := B.bytes
  have hr := B.returns
  have hts0 := atoms_spec (ws := ws_M_reads) B.pre
  have hts : ∀ w ∈ TT, w.before _ s = true := fun w h => hts0 w (List.mem_cons_of_mem _ h)
  have hown : s.vm.findClass "LoanRulesModel" = some m.cls := findClass_of_methodNamed B.named
  have hlocks := B.notSynchronized
  subst hsz
  have hD := hD0.self (sz := s.heap.size)
  generalize hAe : va_A [(a_m, .inr (5, [.int 0, .ref a_sa, .int 0, .int 0, .int 0, .ref a_mr, .ref a_me, .ref a_le, .int 0, .ref a_mc, .ref a_mt, .ref a_mk, .ref a_my, .ref a_mb, .ref a_mx, .ref a_ml, .int 0, .ref a_mh, .ref a_mf, .int 0, .ref a_mz, .int 0])), (a_mr, .inl (k_mr, 410, .inl (fun _ => 0)))] s.heap.size = A at hD hZ ⊢
  have hA : ∀ q : Nat, s.heap.size ≤ q → A q := fun q h => by rw [← hAe]; exact Or.inr h
  clear hAe hD0
  have hS : va_S A s.heap s.heap [] := va_S.rf
  replace hP : va_P (dC, dI) vwCl [(a_m, .inr (5, [.int 0, .ref a_sa, .int 0, .int 0, .int 0, .ref a_mr, .ref a_me, .ref a_le, .int 0, .ref a_mc, .ref a_mt, .ref a_mk, .ref a_my, .ref a_mb, .ref a_mx, .ref a_ml, .int 0, .ref a_mh, .ref a_mf, .int 0, .ref a_mz, .int 0])), (a_mr, .inl (k_mr, 410, .inl (fun _ => 0)))] s.heap := hP
  have hl := lv_entry ([.ref a_m]) (n := 4) (Nat.le_of_ble_eq_true rfl)
  rw [lg_entry_eq]
  generalize (lg_sl ([.ref a_m]) ++ List.replicate (4 - (lg_sl ([.ref a_m])).length) Slot.unset).toArray = ls at hl ⊢
  replace hl : lv_has ls 4 [(0, .ref a_m)] := hl
  refine lv_iconst (v := 0) hx hb d_M_reads_0 (by decide) ?_
  refine lv_istore_n (lv' := [(1, .int 0), (0, .ref a_m)]) hx hb d_M_reads_1 rfl hl (by decide) rfl (fun ls hl => ?_)
  refine lv_iload_n hx hb d_M_reads_2 rfl (lv_at hl 0 rfl) ?_
  refine lv_bipush (v := 10) hx hb d_M_reads_3 (by decide) ?_
  refine lv_icmp_ge (tgt := 49) hx hb d_M_reads_5 (by decide) (fun c_1 => ?_) (fun c_1 => ?_)
  · exact absurd c_1 (by decide)
  · refine lv_aload_n hx hb d_M_reads_8 rfl (lv_at hl 1 rfl) ?_
    refine va_get (D := (dC, dI)) (ci := 5) (v := .ref a_mr) (C := "LoanRulesModel") (T := Fz_M) (N := 22) hx hb hts it_M hown hK hP 0 rfl rfl 5 (by decide) (hts _ tw_606) (fun _ h9 => h9) rfl d_M_reads_9 ?_
    refine lv_bipush (v := 10) hx hb d_M_reads_12 (by decide) ?_
    refine lv_aload_n hx hb d_M_reads_14 rfl (lv_at hl 1 rfl) ?_
    refine va_get (D := (dC, dI)) (ci := 5) (v := .int 0) (C := "LoanRulesModel") (T := Fz_M) (N := 22) hx hb hts it_M hown hK hP 0 rfl rfl 8 (by decide) (hts _ tw_609) (fun _ h9 => h9) rfl d_M_reads_15 ?_
    refine lv_imul hx hb d_M_reads_18 ?_
    refine lv_topi (fun x_2 ex_2 => ?_)
    obtain rfl : x_2 = 0 := ex_2.trans (by decide)
    refine lv_iload_n hx hb d_M_reads_19 rfl (lv_at hl 0 rfl) ?_
    refine lv_iadd hx hb d_M_reads_20 ?_
    refine lv_topi (fun x_3 ex_3 => ?_)
    obtain rfl : x_3 = 0 := ex_3.trans (by decide)
    refine lv_iload_n hx hb d_M_reads_21 rfl (lv_at hl 0 rfl) ?_
    refine lv_iconst (v := 3) hx hb d_M_reads_22 (by decide) ?_
    refine lv_icmp_ge (tgt := 30) hx hb d_M_reads_23 (by decide) (fun c_4 => ?_) (fun c_4 => ?_)
    · exact absurd c_4 (by decide)
    · refine lv_iconst (v := (-1)) hx hb d_M_reads_26 (by decide) ?_
      refine lv_goto (tgt := 42) hx hb d_M_reads_27 (by decide) ?_
      have i_5 : vp_in 0 410 := by show ¬ (_ ∨ _); decide
      refine va_iast (D := (dC, dI)) hx hb hK hP hD hS 1 0 rfl rfl i_5 d_M_reads_42 (fun H locs hP hD hS => ?_)
      replace hP : va_P (dC, dI) vwCl [(a_m, .inr (5, [.int 0, .ref a_sa, .int 0, .int 0, .int 0, .ref a_mr, .ref a_me, .ref a_le, .int 0, .ref a_mc, .ref a_mt, .ref a_mk, .ref a_my, .ref a_mb, .ref a_mx, .ref a_ml, .int 0, .ref a_mh, .ref a_mf, .int 0, .ref a_mz, .int 0])), (a_mr, .inl (k_mr, 410, .inl (upd (fun _ => 0) (0 : Int32).toNatClampNeg (-1))))] H := hP
      replace hD : va_D A [(a_m, .inr (5, [.int 0, .ref a_sa, .int 0, .int 0, .int 0, .ref a_mr, .ref a_me, .ref a_le, .int 0, .ref a_mc, .ref a_mt, .ref a_mk, .ref a_my, .ref a_mb, .ref a_mx, .ref a_ml, .int 0, .ref a_mh, .ref a_mf, .int 0, .ref a_mz, .int 0])), (a_mr, .inl (k_mr, 410, .inl (upd (fun _ => 0) (0 : Int32).toNatClampNeg (-1))))] := hD
      refine lv_iinc (v := 1) (lv' := [(1, .int 1), (0, .ref a_m)]) hx hb d_M_reads_43 hl (k := 0) rfl (by decide) (by decide) rfl (fun ls hl => ?_)
      refine lv_goto (tgt := 2) hx hb d_M_reads_46 (by decide) ?_
      refine lv_iload_n hx hb d_M_reads_2 rfl (lv_at hl 0 rfl) ?_
      refine lv_bipush (v := 10) hx hb d_M_reads_3 (by decide) ?_
      refine lv_icmp_ge (tgt := 49) hx hb d_M_reads_5 (by decide) (fun c_6 => ?_) (fun c_6 => ?_)
      · exact absurd c_6 (by decide)
      · refine lv_aload_n hx hb d_M_reads_8 rfl (lv_at hl 1 rfl) ?_
        refine va_get (D := (dC, dI)) (ci := 5) (v := .ref a_mr) (C := "LoanRulesModel") (T := Fz_M) (N := 22) hx hb hts it_M hown hK hP 0 rfl rfl 5 (by decide) (hts _ tw_606) (fun _ h9 => h9) rfl d_M_reads_9 ?_
        refine lv_bipush (v := 10) hx hb d_M_reads_12 (by decide) ?_
        refine lv_aload_n hx hb d_M_reads_14 rfl (lv_at hl 1 rfl) ?_
        refine va_get (D := (dC, dI)) (ci := 5) (v := .int 0) (C := "LoanRulesModel") (T := Fz_M) (N := 22) hx hb hts it_M hown hK hP 0 rfl rfl 8 (by decide) (hts _ tw_609) (fun _ h9 => h9) rfl d_M_reads_15 ?_
        refine lv_imul hx hb d_M_reads_18 ?_
        refine lv_topi (fun x_7 ex_7 => ?_)
        obtain rfl : x_7 = 0 := ex_7.trans (by decide)
        refine lv_iload_n hx hb d_M_reads_19 rfl (lv_at hl 0 rfl) ?_
        refine lv_iadd hx hb d_M_reads_20 ?_
        refine lv_topi (fun x_8 ex_8 => ?_)
        obtain rfl : x_8 = 1 := ex_8.trans (by decide)
        refine lv_iload_n hx hb d_M_reads_21 rfl (lv_at hl 0 rfl) ?_
        refine lv_iconst (v := 3) hx hb d_M_reads_22 (by decide) ?_
        refine lv_icmp_ge (tgt := 30) hx hb d_M_reads_23 (by decide) (fun c_9 => ?_) (fun c_9 => ?_)
        · exact absurd c_9 (by decide)
        · refine lv_iconst (v := (-1)) hx hb d_M_reads_26 (by decide) ?_
          refine lv_goto (tgt := 42) hx hb d_M_reads_27 (by decide) ?_
          have i_10 : vp_in 1 410 := by show ¬ (_ ∨ _); decide
          refine va_iast (D := (dC, dI)) hx hb hK hP hD hS 1 0 rfl rfl i_10 d_M_reads_42 (fun H locs hP hD hS => ?_)
          replace hP : va_P (dC, dI) vwCl [(a_m, .inr (5, [.int 0, .ref a_sa, .int 0, .int 0, .int 0, .ref a_mr, .ref a_me, .ref a_le, .int 0, .ref a_mc, .ref a_mt, .ref a_mk, .ref a_my, .ref a_mb, .ref a_mx, .ref a_ml, .int 0, .ref a_mh, .ref a_mf, .int 0, .ref a_mz, .int 0])), (a_mr, .inl (k_mr, 410, .inl (upd (upd (fun _ => 0) (0 : Int32).toNatClampNeg (-1)) (1 : Int32).toNatClampNeg (-1))))] H := hP
          replace hD : va_D A [(a_m, .inr (5, [.int 0, .ref a_sa, .int 0, .int 0, .int 0, .ref a_mr, .ref a_me, .ref a_le, .int 0, .ref a_mc, .ref a_mt, .ref a_mk, .ref a_my, .ref a_mb, .ref a_mx, .ref a_ml, .int 0, .ref a_mh, .ref a_mf, .int 0, .ref a_mz, .int 0])), (a_mr, .inl (k_mr, 410, .inl (upd (upd (fun _ => 0) (0 : Int32).toNatClampNeg (-1)) (1 : Int32).toNatClampNeg (-1))))] := hD
          refine lv_iinc (v := 2) (lv' := [(1, .int 2), (0, .ref a_m)]) hx hb d_M_reads_43 hl (k := 0) rfl (by decide) (by decide) rfl (fun ls hl => ?_)
          refine lv_goto (tgt := 2) hx hb d_M_reads_46 (by decide) ?_
          refine lv_iload_n hx hb d_M_reads_2 rfl (lv_at hl 0 rfl) ?_
          refine lv_bipush (v := 10) hx hb d_M_reads_3 (by decide) ?_
          refine lv_icmp_ge (tgt := 49) hx hb d_M_reads_5 (by decide) (fun c_11 => ?_) (fun c_11 => ?_)
          · exact absurd c_11 (by decide)
          · refine lv_aload_n hx hb d_M_reads_8 rfl (lv_at hl 1 rfl) ?_
            refine va_get (D := (dC, dI)) (ci := 5) (v := .ref a_mr) (C := "LoanRulesModel") (T := Fz_M) (N := 22) hx hb hts it_M hown hK hP 0 rfl rfl 5 (by decide) (hts _ tw_606) (fun _ h9 => h9) rfl d_M_reads_9 ?_
            refine lv_bipush (v := 10) hx hb d_M_reads_12 (by decide) ?_
            refine lv_aload_n hx hb d_M_reads_14 rfl (lv_at hl 1 rfl) ?_
            refine va_get (D := (dC, dI)) (ci := 5) (v := .int 0) (C := "LoanRulesModel") (T := Fz_M) (N := 22) hx hb hts it_M hown hK hP 0 rfl rfl 8 (by decide) (hts _ tw_609) (fun _ h9 => h9) rfl d_M_reads_15 ?_
            refine lv_imul hx hb d_M_reads_18 ?_
            refine lv_topi (fun x_12 ex_12 => ?_)
            obtain rfl : x_12 = 0 := ex_12.trans (by decide)
            refine lv_iload_n hx hb d_M_reads_19 rfl (lv_at hl 0 rfl) ?_
            refine lv_iadd hx hb d_M_reads_20 ?_
            refine lv_topi (fun x_13 ex_13 => ?_)
            obtain rfl : x_13 = 2 := ex_13.trans (by decide)
            refine lv_iload_n hx hb d_M_reads_21 rfl (lv_at hl 0 rfl) ?_
            refine lv_iconst (v := 3) hx hb d_M_reads_22 (by decide) ?_
            refine lv_icmp_ge (tgt := 30) hx hb d_M_reads_23 (by decide) (fun c_14 => ?_) (fun c_14 => ?_)
            · exact absurd c_14 (by decide)
            · refine lv_iconst (v := (-1)) hx hb d_M_reads_26 (by decide) ?_
              refine lv_goto (tgt := 42) hx hb d_M_reads_27 (by decide) ?_
              have i_15 : vp_in 2 410 := by show ¬ (_ ∨ _); decide
              refine va_iast (D := (dC, dI)) hx hb hK hP hD hS 1 0 rfl rfl i_15 d_M_reads_42 (fun H locs hP hD hS => ?_)
              replace hP : va_P (dC, dI) vwCl [(a_m, .inr (5, [.int 0, .ref a_sa, .int 0, .int 0, .int 0, .ref a_mr, .ref a_me, .ref a_le, .int 0, .ref a_mc, .ref a_mt, .ref a_mk, .ref a_my, .ref a_mb, .ref a_mx, .ref a_ml, .int 0, .ref a_mh, .ref a_mf, .int 0, .ref a_mz, .int 0])), (a_mr, .inl (k_mr, 410, .inl (upd (upd (upd (fun _ => 0) (0 : Int32).toNatClampNeg (-1)) (1 : Int32).toNatClampNeg (-1)) (2 : Int32).toNatClampNeg (-1))))] H := hP
              replace hD : va_D A [(a_m, .inr (5, [.int 0, .ref a_sa, .int 0, .int 0, .int 0, .ref a_mr, .ref a_me, .ref a_le, .int 0, .ref a_mc, .ref a_mt, .ref a_mk, .ref a_my, .ref a_mb, .ref a_mx, .ref a_ml, .int 0, .ref a_mh, .ref a_mf, .int 0, .ref a_mz, .int 0])), (a_mr, .inl (k_mr, 410, .inl (upd (upd (upd (fun _ => 0) (0 : Int32).toNatClampNeg (-1)) (1 : Int32).toNatClampNeg (-1)) (2 : Int32).toNatClampNeg (-1))))] := hD
              refine lv_iinc (v := 3) (lv' := [(1, .int 3), (0, .ref a_m)]) hx hb d_M_reads_43 hl (k := 0) rfl (by decide) (by decide) rfl (fun ls hl => ?_)
              refine lv_goto (tgt := 2) hx hb d_M_reads_46 (by decide) ?_
              refine lv_iload_n hx hb d_M_reads_2 rfl (lv_at hl 0 rfl) ?_
              refine lv_bipush (v := 10) hx hb d_M_reads_3 (by decide) ?_
              refine lv_icmp_ge (tgt := 49) hx hb d_M_reads_5 (by decide) (fun c_16 => ?_) (fun c_16 => ?_)
              · exact absurd c_16 (by decide)
              · refine lv_aload_n hx hb d_M_reads_8 rfl (lv_at hl 1 rfl) ?_
                refine va_get (D := (dC, dI)) (ci := 5) (v := .ref a_mr) (C := "LoanRulesModel") (T := Fz_M) (N := 22) hx hb hts it_M hown hK hP 0 rfl rfl 5 (by decide) (hts _ tw_606) (fun _ h9 => h9) rfl d_M_reads_9 ?_
                refine lv_bipush (v := 10) hx hb d_M_reads_12 (by decide) ?_
                refine lv_aload_n hx hb d_M_reads_14 rfl (lv_at hl 1 rfl) ?_
                refine va_get (D := (dC, dI)) (ci := 5) (v := .int 0) (C := "LoanRulesModel") (T := Fz_M) (N := 22) hx hb hts it_M hown hK hP 0 rfl rfl 8 (by decide) (hts _ tw_609) (fun _ h9 => h9) rfl d_M_reads_15 ?_
                refine lv_imul hx hb d_M_reads_18 ?_
                refine lv_topi (fun x_17 ex_17 => ?_)
                obtain rfl : x_17 = 0 := ex_17.trans (by decide)
                refine lv_iload_n hx hb d_M_reads_19 rfl (lv_at hl 0 rfl) ?_
                refine lv_iadd hx hb d_M_reads_20 ?_
                refine lv_topi (fun x_18 ex_18 => ?_)
                obtain rfl : x_18 = 3 := ex_18.trans (by decide)
                refine lv_iload_n hx hb d_M_reads_21 rfl (lv_at hl 0 rfl) ?_
                refine lv_iconst (v := 3) hx hb d_M_reads_22 (by decide) ?_
                refine lv_icmp_ge (tgt := 30) hx hb d_M_reads_23 (by decide) (fun c_19 => ?_) (fun c_19 => ?_)
                · refine lv_iload_n hx hb d_M_reads_30 rfl (lv_at hl 0 rfl) ?_
                  refine lv_bipush (v := 7) hx hb d_M_reads_31 (by decide) ?_
                  refine lv_icmp_ne (tgt := 41) hx hb d_M_reads_33 (by decide) (fun c_20 => ?_) (fun c_20 => ?_)
                  · refine lv_iconst (v := 0) hx hb d_M_reads_41 (by decide) ?_
                    have i_21 : vp_in 3 410 := by show ¬ (_ ∨ _); decide
                    refine va_iast (D := (dC, dI)) hx hb hK hP hD hS 1 0 rfl rfl i_21 d_M_reads_42 (fun H locs hP hD hS => ?_)
                    replace hP : va_P (dC, dI) vwCl [(a_m, .inr (5, [.int 0, .ref a_sa, .int 0, .int 0, .int 0, .ref a_mr, .ref a_me, .ref a_le, .int 0, .ref a_mc, .ref a_mt, .ref a_mk, .ref a_my, .ref a_mb, .ref a_mx, .ref a_ml, .int 0, .ref a_mh, .ref a_mf, .int 0, .ref a_mz, .int 0])), (a_mr, .inl (k_mr, 410, .inl (upd (upd (upd (upd (fun _ => 0) (0 : Int32).toNatClampNeg (-1)) (1 : Int32).toNatClampNeg (-1)) (2 : Int32).toNatClampNeg (-1)) (3 : Int32).toNatClampNeg 0)))] H := hP
                    replace hD : va_D A [(a_m, .inr (5, [.int 0, .ref a_sa, .int 0, .int 0, .int 0, .ref a_mr, .ref a_me, .ref a_le, .int 0, .ref a_mc, .ref a_mt, .ref a_mk, .ref a_my, .ref a_mb, .ref a_mx, .ref a_ml, .int 0, .ref a_mh, .ref a_mf, .int 0, .ref a_mz, .int 0])), (a_mr, .inl (k_mr, 410, .inl (upd (upd (upd (upd (fun _ => 0) (0 : Int32).toNatClampNeg (-1)) (1 : Int32).toNatClampNeg (-1)) (2 : Int32).toNatClampNeg (-1)) (3 : Int32).toNatClampNeg 0)))] := hD
                    refine lv_iinc (v := 4) (lv' := [(1, .int 4), (0, .ref a_m)]) hx hb d_M_reads_43 hl (k := 0) rfl (by decide) (by decide) rfl (fun ls hl => ?_)
                    refine lv_goto (tgt := 2) hx hb d_M_reads_46 (by decide) ?_
                    refine lv_iload_n hx hb d_M_reads_2 rfl (lv_at hl 0 rfl) ?_
                    refine lv_bipush (v := 10) hx hb d_M_reads_3 (by decide) ?_
                    refine lv_icmp_ge (tgt := 49) hx hb d_M_reads_5 (by decide) (fun c_22 => ?_) (fun c_22 => ?_)
                    · exact absurd c_22 (by decide)
                    · refine lv_aload_n hx hb d_M_reads_8 rfl (lv_at hl 1 rfl) ?_
                      refine va_get (D := (dC, dI)) (ci := 5) (v := .ref a_mr) (C := "LoanRulesModel") (T := Fz_M) (N := 22) hx hb hts it_M hown hK hP 0 rfl rfl 5 (by decide) (hts _ tw_606) (fun _ h9 => h9) rfl d_M_reads_9 ?_
                      refine lv_bipush (v := 10) hx hb d_M_reads_12 (by decide) ?_
                      refine lv_aload_n hx hb d_M_reads_14 rfl (lv_at hl 1 rfl) ?_
                      refine va_get (D := (dC, dI)) (ci := 5) (v := .int 0) (C := "LoanRulesModel") (T := Fz_M) (N := 22) hx hb hts it_M hown hK hP 0 rfl rfl 8 (by decide) (hts _ tw_609) (fun _ h9 => h9) rfl d_M_reads_15 ?_
                      refine lv_imul hx hb d_M_reads_18 ?_
                      refine lv_topi (fun x_23 ex_23 => ?_)
                      obtain rfl : x_23 = 0 := ex_23.trans (by decide)
                      refine lv_iload_n hx hb d_M_reads_19 rfl (lv_at hl 0 rfl) ?_
                      refine lv_iadd hx hb d_M_reads_20 ?_
                      refine lv_topi (fun x_24 ex_24 => ?_)
                      obtain rfl : x_24 = 4 := ex_24.trans (by decide)
                      refine lv_iload_n hx hb d_M_reads_21 rfl (lv_at hl 0 rfl) ?_
                      refine lv_iconst (v := 3) hx hb d_M_reads_22 (by decide) ?_
                      refine lv_icmp_ge (tgt := 30) hx hb d_M_reads_23 (by decide) (fun c_25 => ?_) (fun c_25 => ?_)
                      · refine lv_iload_n hx hb d_M_reads_30 rfl (lv_at hl 0 rfl) ?_
                        refine lv_bipush (v := 7) hx hb d_M_reads_31 (by decide) ?_
                        refine lv_icmp_ne (tgt := 41) hx hb d_M_reads_33 (by decide) (fun c_26 => ?_) (fun c_26 => ?_)
                        · refine lv_iconst (v := 0) hx hb d_M_reads_41 (by decide) ?_
                          have i_27 : vp_in 4 410 := by show ¬ (_ ∨ _); decide
                          refine va_iast (D := (dC, dI)) hx hb hK hP hD hS 1 0 rfl rfl i_27 d_M_reads_42 (fun H locs hP hD hS => ?_)
                          replace hP : va_P (dC, dI) vwCl [(a_m, .inr (5, [.int 0, .ref a_sa, .int 0, .int 0, .int 0, .ref a_mr, .ref a_me, .ref a_le, .int 0, .ref a_mc, .ref a_mt, .ref a_mk, .ref a_my, .ref a_mb, .ref a_mx, .ref a_ml, .int 0, .ref a_mh, .ref a_mf, .int 0, .ref a_mz, .int 0])), (a_mr, .inl (k_mr, 410, .inl (upd (upd (upd (upd (upd (fun _ => 0) (0 : Int32).toNatClampNeg (-1)) (1 : Int32).toNatClampNeg (-1)) (2 : Int32).toNatClampNeg (-1)) (3 : Int32).toNatClampNeg 0) (4 : Int32).toNatClampNeg 0)))] H := hP
                          replace hD : va_D A [(a_m, .inr (5, [.int 0, .ref a_sa, .int 0, .int 0, .int 0, .ref a_mr, .ref a_me, .ref a_le, .int 0, .ref a_mc, .ref a_mt, .ref a_mk, .ref a_my, .ref a_mb, .ref a_mx, .ref a_ml, .int 0, .ref a_mh, .ref a_mf, .int 0, .ref a_mz, .int 0])), (a_mr, .inl (k_mr, 410, .inl (upd (upd (upd (upd (upd (fun _ => 0) (0 : Int32).toNatClampNeg (-1)) (1 : Int32).toNatClampNeg (-1)) (2 : Int32).toNatClampNeg (-1)) (3 : Int32).toNatClampNeg 0) (4 : Int32).toNatClampNeg 0)))] := hD
                          refine lv_iinc (v := 5) (lv' := [(1, .int 5), (0, .ref a_m)]) hx hb d_M_reads_43 hl (k := 0) rfl (by decide) (by decide) rfl (fun ls hl => ?_)
                          refine lv_goto (tgt := 2) hx hb d_M_reads_46 (by decide) ?_
                          refine lv_iload_n hx hb d_M_reads_2 rfl (lv_at hl 0 rfl) ?_
                          refine lv_bipush (v := 10) hx hb d_M_reads_3 (by decide) ?_
                          refine lv_icmp_ge (tgt := 49) hx hb d_M_reads_5 (by decide) (fun c_28 => ?_) (fun c_28 => ?_)
                          · exact absurd c_28 (by decide)
                          · refine lv_aload_n hx hb d_M_reads_8 rfl (lv_at hl 1 rfl) ?_
                            refine va_get (D := (dC, dI)) (ci := 5) (v := .ref a_mr) (C := "LoanRulesModel") (T := Fz_M) (N := 22) hx hb hts it_M hown hK hP 0 rfl rfl 5 (by decide) (hts _ tw_606) (fun _ h9 => h9) rfl d_M_reads_9 ?_
                            refine lv_bipush (v := 10) hx hb d_M_reads_12 (by decide) ?_
                            refine lv_aload_n hx hb d_M_reads_14 rfl (lv_at hl 1 rfl) ?_
                            refine va_get (D := (dC, dI)) (ci := 5) (v := .int 0) (C := "LoanRulesModel") (T := Fz_M) (N := 22) hx hb hts it_M hown hK hP 0 rfl rfl 8 (by decide) (hts _ tw_609) (fun _ h9 => h9) rfl d_M_reads_15 ?_
                            refine lv_imul hx hb d_M_reads_18 ?_
                            refine lv_topi (fun x_29 ex_29 => ?_)
                            obtain rfl : x_29 = 0 := ex_29.trans (by decide)
                            refine lv_iload_n hx hb d_M_reads_19 rfl (lv_at hl 0 rfl) ?_
                            refine lv_iadd hx hb d_M_reads_20 ?_
                            refine lv_topi (fun x_30 ex_30 => ?_)
                            obtain rfl : x_30 = 5 := ex_30.trans (by decide)
                            refine lv_iload_n hx hb d_M_reads_21 rfl (lv_at hl 0 rfl) ?_
                            refine lv_iconst (v := 3) hx hb d_M_reads_22 (by decide) ?_
                            refine lv_icmp_ge (tgt := 30) hx hb d_M_reads_23 (by decide) (fun c_31 => ?_) (fun c_31 => ?_)
                            · refine lv_iload_n hx hb d_M_reads_30 rfl (lv_at hl 0 rfl) ?_
                              refine lv_bipush (v := 7) hx hb d_M_reads_31 (by decide) ?_
                              refine lv_icmp_ne (tgt := 41) hx hb d_M_reads_33 (by decide) (fun c_32 => ?_) (fun c_32 => ?_)
                              · refine lv_iconst (v := 0) hx hb d_M_reads_41 (by decide) ?_
                                have i_33 : vp_in 5 410 := by show ¬ (_ ∨ _); decide
                                refine va_iast (D := (dC, dI)) hx hb hK hP hD hS 1 0 rfl rfl i_33 d_M_reads_42 (fun H locs hP hD hS => ?_)
                                replace hP : va_P (dC, dI) vwCl [(a_m, .inr (5, [.int 0, .ref a_sa, .int 0, .int 0, .int 0, .ref a_mr, .ref a_me, .ref a_le, .int 0, .ref a_mc, .ref a_mt, .ref a_mk, .ref a_my, .ref a_mb, .ref a_mx, .ref a_ml, .int 0, .ref a_mh, .ref a_mf, .int 0, .ref a_mz, .int 0])), (a_mr, .inl (k_mr, 410, .inl (upd (upd (upd (upd (upd (upd (fun _ => 0) (0 : Int32).toNatClampNeg (-1)) (1 : Int32).toNatClampNeg (-1)) (2 : Int32).toNatClampNeg (-1)) (3 : Int32).toNatClampNeg 0) (4 : Int32).toNatClampNeg 0) (5 : Int32).toNatClampNeg 0)))] H := hP
                                replace hD : va_D A [(a_m, .inr (5, [.int 0, .ref a_sa, .int 0, .int 0, .int 0, .ref a_mr, .ref a_me, .ref a_le, .int 0, .ref a_mc, .ref a_mt, .ref a_mk, .ref a_my, .ref a_mb, .ref a_mx, .ref a_ml, .int 0, .ref a_mh, .ref a_mf, .int 0, .ref a_mz, .int 0])), (a_mr, .inl (k_mr, 410, .inl (upd (upd (upd (upd (upd (upd (fun _ => 0) (0 : Int32).toNatClampNeg (-1)) (1 : Int32).toNatClampNeg (-1)) (2 : Int32).toNatClampNeg (-1)) (3 : Int32).toNatClampNeg 0) (4 : Int32).toNatClampNeg 0) (5 : Int32).toNatClampNeg 0)))] := hD
                                refine lv_iinc (v := 6) (lv' := [(1, .int 6), (0, .ref a_m)]) hx hb d_M_reads_43 hl (k := 0) rfl (by decide) (by decide) rfl (fun ls hl => ?_)
                                refine lv_goto (tgt := 2) hx hb d_M_reads_46 (by decide) ?_
                                refine lv_iload_n hx hb d_M_reads_2 rfl (lv_at hl 0 rfl) ?_
                                refine lv_bipush (v := 10) hx hb d_M_reads_3 (by decide) ?_
                                refine lv_icmp_ge (tgt := 49) hx hb d_M_reads_5 (by decide) (fun c_34 => ?_) (fun c_34 => ?_)
                                · exact absurd c_34 (by decide)
                                · refine lv_aload_n hx hb d_M_reads_8 rfl (lv_at hl 1 rfl) ?_
                                  refine va_get (D := (dC, dI)) (ci := 5) (v := .ref a_mr) (C := "LoanRulesModel") (T := Fz_M) (N := 22) hx hb hts it_M hown hK hP 0 rfl rfl 5 (by decide) (hts _ tw_606) (fun _ h9 => h9) rfl d_M_reads_9 ?_
                                  refine lv_bipush (v := 10) hx hb d_M_reads_12 (by decide) ?_
                                  refine lv_aload_n hx hb d_M_reads_14 rfl (lv_at hl 1 rfl) ?_
                                  refine va_get (D := (dC, dI)) (ci := 5) (v := .int 0) (C := "LoanRulesModel") (T := Fz_M) (N := 22) hx hb hts it_M hown hK hP 0 rfl rfl 8 (by decide) (hts _ tw_609) (fun _ h9 => h9) rfl d_M_reads_15 ?_
                                  refine lv_imul hx hb d_M_reads_18 ?_
                                  refine lv_topi (fun x_35 ex_35 => ?_)
                                  obtain rfl : x_35 = 0 := ex_35.trans (by decide)
                                  refine lv_iload_n hx hb d_M_reads_19 rfl (lv_at hl 0 rfl) ?_
                                  refine lv_iadd hx hb d_M_reads_20 ?_
                                  refine lv_topi (fun x_36 ex_36 => ?_)
                                  obtain rfl : x_36 = 6 := ex_36.trans (by decide)
                                  refine lv_iload_n hx hb d_M_reads_21 rfl (lv_at hl 0 rfl) ?_
                                  refine lv_iconst (v := 3) hx hb d_M_reads_22 (by decide) ?_
                                  refine lv_icmp_ge (tgt := 30) hx hb d_M_reads_23 (by decide) (fun c_37 => ?_) (fun c_37 => ?_)
                                  · refine lv_iload_n hx hb d_M_reads_30 rfl (lv_at hl 0 rfl) ?_
                                    refine lv_bipush (v := 7) hx hb d_M_reads_31 (by decide) ?_
                                    refine lv_icmp_ne (tgt := 41) hx hb d_M_reads_33 (by decide) (fun c_38 => ?_) (fun c_38 => ?_)
                                    · refine lv_iconst (v := 0) hx hb d_M_reads_41 (by decide) ?_
                                      have i_39 : vp_in 6 410 := by show ¬ (_ ∨ _); decide
                                      refine va_iast (D := (dC, dI)) hx hb hK hP hD hS 1 0 rfl rfl i_39 d_M_reads_42 (fun H locs hP hD hS => ?_)
                                      replace hP : va_P (dC, dI) vwCl [(a_m, .inr (5, [.int 0, .ref a_sa, .int 0, .int 0, .int 0, .ref a_mr, .ref a_me, .ref a_le, .int 0, .ref a_mc, .ref a_mt, .ref a_mk, .ref a_my, .ref a_mb, .ref a_mx, .ref a_ml, .int 0, .ref a_mh, .ref a_mf, .int 0, .ref a_mz, .int 0])), (a_mr, .inl (k_mr, 410, .inl (upd (upd (upd (upd (upd (upd (upd (fun _ => 0) (0 : Int32).toNatClampNeg (-1)) (1 : Int32).toNatClampNeg (-1)) (2 : Int32).toNatClampNeg (-1)) (3 : Int32).toNatClampNeg 0) (4 : Int32).toNatClampNeg 0) (5 : Int32).toNatClampNeg 0) (6 : Int32).toNatClampNeg 0)))] H := hP
                                      replace hD : va_D A [(a_m, .inr (5, [.int 0, .ref a_sa, .int 0, .int 0, .int 0, .ref a_mr, .ref a_me, .ref a_le, .int 0, .ref a_mc, .ref a_mt, .ref a_mk, .ref a_my, .ref a_mb, .ref a_mx, .ref a_ml, .int 0, .ref a_mh, .ref a_mf, .int 0, .ref a_mz, .int 0])), (a_mr, .inl (k_mr, 410, .inl (upd (upd (upd (upd (upd (upd (upd (fun _ => 0) (0 : Int32).toNatClampNeg (-1)) (1 : Int32).toNatClampNeg (-1)) (2 : Int32).toNatClampNeg (-1)) (3 : Int32).toNatClampNeg 0) (4 : Int32).toNatClampNeg 0) (5 : Int32).toNatClampNeg 0) (6 : Int32).toNatClampNeg 0)))] := hD
                                      refine lv_iinc (v := 7) (lv' := [(1, .int 7), (0, .ref a_m)]) hx hb d_M_reads_43 hl (k := 0) rfl (by decide) (by decide) rfl (fun ls hl => ?_)
                                      refine lv_goto (tgt := 2) hx hb d_M_reads_46 (by decide) ?_
                                      refine lv_iload_n hx hb d_M_reads_2 rfl (lv_at hl 0 rfl) ?_
                                      refine lv_bipush (v := 10) hx hb d_M_reads_3 (by decide) ?_
                                      refine lv_icmp_ge (tgt := 49) hx hb d_M_reads_5 (by decide) (fun c_40 => ?_) (fun c_40 => ?_)
                                      · exact absurd c_40 (by decide)
                                      · refine lv_aload_n hx hb d_M_reads_8 rfl (lv_at hl 1 rfl) ?_
                                        refine va_get (D := (dC, dI)) (ci := 5) (v := .ref a_mr) (C := "LoanRulesModel") (T := Fz_M) (N := 22) hx hb hts it_M hown hK hP 0 rfl rfl 5 (by decide) (hts _ tw_606) (fun _ h9 => h9) rfl d_M_reads_9 ?_
                                        refine lv_bipush (v := 10) hx hb d_M_reads_12 (by decide) ?_
                                        refine lv_aload_n hx hb d_M_reads_14 rfl (lv_at hl 1 rfl) ?_
                                        refine va_get (D := (dC, dI)) (ci := 5) (v := .int 0) (C := "LoanRulesModel") (T := Fz_M) (N := 22) hx hb hts it_M hown hK hP 0 rfl rfl 8 (by decide) (hts _ tw_609) (fun _ h9 => h9) rfl d_M_reads_15 ?_
                                        refine lv_imul hx hb d_M_reads_18 ?_
                                        refine lv_topi (fun x_41 ex_41 => ?_)
                                        obtain rfl : x_41 = 0 := ex_41.trans (by decide)
                                        refine lv_iload_n hx hb d_M_reads_19 rfl (lv_at hl 0 rfl) ?_
                                        refine lv_iadd hx hb d_M_reads_20 ?_
                                        refine lv_topi (fun x_42 ex_42 => ?_)
                                        obtain rfl : x_42 = 7 := ex_42.trans (by decide)
                                        refine lv_iload_n hx hb d_M_reads_21 rfl (lv_at hl 0 rfl) ?_
                                        refine lv_iconst (v := 3) hx hb d_M_reads_22 (by decide) ?_
                                        refine lv_icmp_ge (tgt := 30) hx hb d_M_reads_23 (by decide) (fun c_43 => ?_) (fun c_43 => ?_)
                                        · refine lv_iload_n hx hb d_M_reads_30 rfl (lv_at hl 0 rfl) ?_
                                          refine lv_bipush (v := 7) hx hb d_M_reads_31 (by decide) ?_
                                          refine lv_icmp_ne (tgt := 41) hx hb d_M_reads_33 (by decide) (fun c_44 => ?_) (fun c_44 => ?_)
                                          · exact absurd (by decide) c_44
                                          · refine lv_bipush (v := 7) hx hb d_M_reads_36 (by decide) ?_
                                            refine lv_goto (tgt := 42) hx hb d_M_reads_38 (by decide) ?_
                                            have i_45 : vp_in 7 410 := by show ¬ (_ ∨ _); decide
                                            refine va_iast (D := (dC, dI)) hx hb hK hP hD hS 1 0 rfl rfl i_45 d_M_reads_42 (fun H locs hP hD hS => ?_)
                                            replace hP : va_P (dC, dI) vwCl [(a_m, .inr (5, [.int 0, .ref a_sa, .int 0, .int 0, .int 0, .ref a_mr, .ref a_me, .ref a_le, .int 0, .ref a_mc, .ref a_mt, .ref a_mk, .ref a_my, .ref a_mb, .ref a_mx, .ref a_ml, .int 0, .ref a_mh, .ref a_mf, .int 0, .ref a_mz, .int 0])), (a_mr, .inl (k_mr, 410, .inl (upd (upd (upd (upd (upd (upd (upd (upd (fun _ => 0) (0 : Int32).toNatClampNeg (-1)) (1 : Int32).toNatClampNeg (-1)) (2 : Int32).toNatClampNeg (-1)) (3 : Int32).toNatClampNeg 0) (4 : Int32).toNatClampNeg 0) (5 : Int32).toNatClampNeg 0) (6 : Int32).toNatClampNeg 0) (7 : Int32).toNatClampNeg 7)))] H := hP
                                            replace hD : va_D A [(a_m, .inr (5, [.int 0, .ref a_sa, .int 0, .int 0, .int 0, .ref a_mr, .ref a_me, .ref a_le, .int 0, .ref a_mc, .ref a_mt, .ref a_mk, .ref a_my, .ref a_mb, .ref a_mx, .ref a_ml, .int 0, .ref a_mh, .ref a_mf, .int 0, .ref a_mz, .int 0])), (a_mr, .inl (k_mr, 410, .inl (upd (upd (upd (upd (upd (upd (upd (upd (fun _ => 0) (0 : Int32).toNatClampNeg (-1)) (1 : Int32).toNatClampNeg (-1)) (2 : Int32).toNatClampNeg (-1)) (3 : Int32).toNatClampNeg 0) (4 : Int32).toNatClampNeg 0) (5 : Int32).toNatClampNeg 0) (6 : Int32).toNatClampNeg 0) (7 : Int32).toNatClampNeg 7)))] := hD
                                            refine lv_iinc (v := 8) (lv' := [(1, .int 8), (0, .ref a_m)]) hx hb d_M_reads_43 hl (k := 0) rfl (by decide) (by decide) rfl (fun ls hl => ?_)
                                            refine lv_goto (tgt := 2) hx hb d_M_reads_46 (by decide) ?_
                                            refine lv_iload_n hx hb d_M_reads_2 rfl (lv_at hl 0 rfl) ?_
                                            refine lv_bipush (v := 10) hx hb d_M_reads_3 (by decide) ?_
                                            refine lv_icmp_ge (tgt := 49) hx hb d_M_reads_5 (by decide) (fun c_46 => ?_) (fun c_46 => ?_)
                                            · exact absurd c_46 (by decide)
                                            · refine lv_aload_n hx hb d_M_reads_8 rfl (lv_at hl 1 rfl) ?_
                                              refine va_get (D := (dC, dI)) (ci := 5) (v := .ref a_mr) (C := "LoanRulesModel") (T := Fz_M) (N := 22) hx hb hts it_M hown hK hP 0 rfl rfl 5 (by decide) (hts _ tw_606) (fun _ h9 => h9) rfl d_M_reads_9 ?_
                                              refine lv_bipush (v := 10) hx hb d_M_reads_12 (by decide) ?_
                                              refine lv_aload_n hx hb d_M_reads_14 rfl (lv_at hl 1 rfl) ?_
                                              refine va_get (D := (dC, dI)) (ci := 5) (v := .int 0) (C := "LoanRulesModel") (T := Fz_M) (N := 22) hx hb hts it_M hown hK hP 0 rfl rfl 8 (by decide) (hts _ tw_609) (fun _ h9 => h9) rfl d_M_reads_15 ?_
                                              refine lv_imul hx hb d_M_reads_18 ?_
                                              refine lv_topi (fun x_47 ex_47 => ?_)
                                              obtain rfl : x_47 = 0 := ex_47.trans (by decide)
                                              refine lv_iload_n hx hb d_M_reads_19 rfl (lv_at hl 0 rfl) ?_
                                              refine lv_iadd hx hb d_M_reads_20 ?_
                                              refine lv_topi (fun x_48 ex_48 => ?_)
                                              obtain rfl : x_48 = 8 := ex_48.trans (by decide)
                                              refine lv_iload_n hx hb d_M_reads_21 rfl (lv_at hl 0 rfl) ?_
                                              refine lv_iconst (v := 3) hx hb d_M_reads_22 (by decide) ?_
                                              refine lv_icmp_ge (tgt := 30) hx hb d_M_reads_23 (by decide) (fun c_49 => ?_) (fun c_49 => ?_)
                                              · refine lv_iload_n hx hb d_M_reads_30 rfl (lv_at hl 0 rfl) ?_
                                                refine lv_bipush (v := 7) hx hb d_M_reads_31 (by decide) ?_
                                                refine lv_icmp_ne (tgt := 41) hx hb d_M_reads_33 (by decide) (fun c_50 => ?_) (fun c_50 => ?_)
                                                · refine lv_iconst (v := 0) hx hb d_M_reads_41 (by decide) ?_
                                                  have i_51 : vp_in 8 410 := by show ¬ (_ ∨ _); decide
                                                  refine va_iast (D := (dC, dI)) hx hb hK hP hD hS 1 0 rfl rfl i_51 d_M_reads_42 (fun H locs hP hD hS => ?_)
                                                  replace hP : va_P (dC, dI) vwCl [(a_m, .inr (5, [.int 0, .ref a_sa, .int 0, .int 0, .int 0, .ref a_mr, .ref a_me, .ref a_le, .int 0, .ref a_mc, .ref a_mt, .ref a_mk, .ref a_my, .ref a_mb, .ref a_mx, .ref a_ml, .int 0, .ref a_mh, .ref a_mf, .int 0, .ref a_mz, .int 0])), (a_mr, .inl (k_mr, 410, .inl (upd (upd (upd (upd (upd (upd (upd (upd (upd (fun _ => 0) (0 : Int32).toNatClampNeg (-1)) (1 : Int32).toNatClampNeg (-1)) (2 : Int32).toNatClampNeg (-1)) (3 : Int32).toNatClampNeg 0) (4 : Int32).toNatClampNeg 0) (5 : Int32).toNatClampNeg 0) (6 : Int32).toNatClampNeg 0) (7 : Int32).toNatClampNeg 7) (8 : Int32).toNatClampNeg 0)))] H := hP
                                                  replace hD : va_D A [(a_m, .inr (5, [.int 0, .ref a_sa, .int 0, .int 0, .int 0, .ref a_mr, .ref a_me, .ref a_le, .int 0, .ref a_mc, .ref a_mt, .ref a_mk, .ref a_my, .ref a_mb, .ref a_mx, .ref a_ml, .int 0, .ref a_mh, .ref a_mf, .int 0, .ref a_mz, .int 0])), (a_mr, .inl (k_mr, 410, .inl (upd (upd (upd (upd (upd (upd (upd (upd (upd (fun _ => 0) (0 : Int32).toNatClampNeg (-1)) (1 : Int32).toNatClampNeg (-1)) (2 : Int32).toNatClampNeg (-1)) (3 : Int32).toNatClampNeg 0) (4 : Int32).toNatClampNeg 0) (5 : Int32).toNatClampNeg 0) (6 : Int32).toNatClampNeg 0) (7 : Int32).toNatClampNeg 7) (8 : Int32).toNatClampNeg 0)))] := hD
                                                  refine lv_iinc (v := 9) (lv' := [(1, .int 9), (0, .ref a_m)]) hx hb d_M_reads_43 hl (k := 0) rfl (by decide) (by decide) rfl (fun ls hl => ?_)
                                                  refine lv_goto (tgt := 2) hx hb d_M_reads_46 (by decide) ?_
                                                  refine lv_iload_n hx hb d_M_reads_2 rfl (lv_at hl 0 rfl) ?_
                                                  refine lv_bipush (v := 10) hx hb d_M_reads_3 (by decide) ?_
                                                  refine lv_icmp_ge (tgt := 49) hx hb d_M_reads_5 (by decide) (fun c_52 => ?_) (fun c_52 => ?_)
                                                  · exact absurd c_52 (by decide)
                                                  · refine lv_aload_n hx hb d_M_reads_8 rfl (lv_at hl 1 rfl) ?_
                                                    refine va_get (D := (dC, dI)) (ci := 5) (v := .ref a_mr) (C := "LoanRulesModel") (T := Fz_M) (N := 22) hx hb hts it_M hown hK hP 0 rfl rfl 5 (by decide) (hts _ tw_606) (fun _ h9 => h9) rfl d_M_reads_9 ?_
                                                    refine lv_bipush (v := 10) hx hb d_M_reads_12 (by decide) ?_
                                                    refine lv_aload_n hx hb d_M_reads_14 rfl (lv_at hl 1 rfl) ?_
                                                    refine va_get (D := (dC, dI)) (ci := 5) (v := .int 0) (C := "LoanRulesModel") (T := Fz_M) (N := 22) hx hb hts it_M hown hK hP 0 rfl rfl 8 (by decide) (hts _ tw_609) (fun _ h9 => h9) rfl d_M_reads_15 ?_
                                                    refine lv_imul hx hb d_M_reads_18 ?_
                                                    refine lv_topi (fun x_53 ex_53 => ?_)
                                                    obtain rfl : x_53 = 0 := ex_53.trans (by decide)
                                                    refine lv_iload_n hx hb d_M_reads_19 rfl (lv_at hl 0 rfl) ?_
                                                    refine lv_iadd hx hb d_M_reads_20 ?_
                                                    refine lv_topi (fun x_54 ex_54 => ?_)
                                                    obtain rfl : x_54 = 9 := ex_54.trans (by decide)
                                                    refine lv_iload_n hx hb d_M_reads_21 rfl (lv_at hl 0 rfl) ?_
                                                    refine lv_iconst (v := 3) hx hb d_M_reads_22 (by decide) ?_
                                                    refine lv_icmp_ge (tgt := 30) hx hb d_M_reads_23 (by decide) (fun c_55 => ?_) (fun c_55 => ?_)
                                                    · refine lv_iload_n hx hb d_M_reads_30 rfl (lv_at hl 0 rfl) ?_
                                                      refine lv_bipush (v := 7) hx hb d_M_reads_31 (by decide) ?_
                                                      refine lv_icmp_ne (tgt := 41) hx hb d_M_reads_33 (by decide) (fun c_56 => ?_) (fun c_56 => ?_)
                                                      · refine lv_iconst (v := 0) hx hb d_M_reads_41 (by decide) ?_
                                                        have i_57 : vp_in 9 410 := by show ¬ (_ ∨ _); decide
                                                        refine va_iast (D := (dC, dI)) hx hb hK hP hD hS 1 0 rfl rfl i_57 d_M_reads_42 (fun H locs hP hD hS => ?_)
                                                        replace hP : va_P (dC, dI) vwCl [(a_m, .inr (5, [.int 0, .ref a_sa, .int 0, .int 0, .int 0, .ref a_mr, .ref a_me, .ref a_le, .int 0, .ref a_mc, .ref a_mt, .ref a_mk, .ref a_my, .ref a_mb, .ref a_mx, .ref a_ml, .int 0, .ref a_mh, .ref a_mf, .int 0, .ref a_mz, .int 0])), (a_mr, .inl (k_mr, 410, .inl (upd (upd (upd (upd (upd (upd (upd (upd (upd (upd (fun _ => 0) (0 : Int32).toNatClampNeg (-1)) (1 : Int32).toNatClampNeg (-1)) (2 : Int32).toNatClampNeg (-1)) (3 : Int32).toNatClampNeg 0) (4 : Int32).toNatClampNeg 0) (5 : Int32).toNatClampNeg 0) (6 : Int32).toNatClampNeg 0) (7 : Int32).toNatClampNeg 7) (8 : Int32).toNatClampNeg 0) (9 : Int32).toNatClampNeg 0)))] H := hP
                                                        replace hD : va_D A [(a_m, .inr (5, [.int 0, .ref a_sa, .int 0, .int 0, .int 0, .ref a_mr, .ref a_me, .ref a_le, .int 0, .ref a_mc, .ref a_mt, .ref a_mk, .ref a_my, .ref a_mb, .ref a_mx, .ref a_ml, .int 0, .ref a_mh, .ref a_mf, .int 0, .ref a_mz, .int 0])), (a_mr, .inl (k_mr, 410, .inl (upd (upd (upd (upd (upd (upd (upd (upd (upd (upd (fun _ => 0) (0 : Int32).toNatClampNeg (-1)) (1 : Int32).toNatClampNeg (-1)) (2 : Int32).toNatClampNeg (-1)) (3 : Int32).toNatClampNeg 0) (4 : Int32).toNatClampNeg 0) (5 : Int32).toNatClampNeg 0) (6 : Int32).toNatClampNeg 0) (7 : Int32).toNatClampNeg 7) (8 : Int32).toNatClampNeg 0) (9 : Int32).toNatClampNeg 0)))] := hD
                                                        refine lv_iinc (v := 10) (lv' := [(1, .int 10), (0, .ref a_m)]) hx hb d_M_reads_43 hl (k := 0) rfl (by decide) (by decide) rfl (fun ls hl => ?_)
                                                        refine lv_goto (tgt := 2) hx hb d_M_reads_46 (by decide) ?_
                                                        refine lv_iload_n hx hb d_M_reads_2 rfl (lv_at hl 0 rfl) ?_
                                                        refine lv_bipush (v := 10) hx hb d_M_reads_3 (by decide) ?_
                                                        refine lv_icmp_ge (tgt := 49) hx hb d_M_reads_5 (by decide) (fun c_58 => ?_) (fun c_58 => ?_)
                                                        · refine lv_aload_n hx hb d_M_reads_49 rfl (lv_at hl 1 rfl) ?_
                                                          refine lv_iconst (v := 0) hx hb d_M_reads_50 (by decide) ?_
                                                          refine va_put (D := (dC, dI)) (ci := 5) (v := .int 0) (ty := .int) (C := "LoanRulesModel") (T := Fz_M) (N := 22) hx hb hts it_M tz_M tz_M_ok nz_M hown hK hP hD hS 0 rfl rfl 3 (by decide) (hts _ tw_604) (fun _ h9 => h9) rfl (by decide +kernel) rfl rfl (Nat.le_of_ble_eq_true rfl) d_M_reads_51 (fun H locs hP hD hS => ?_)
                                                          replace hP : va_P (dC, dI) vwCl [(a_m, .inr (5, [.int 0, .ref a_sa, .int 0, .int 0, .int 0, .ref a_mr, .ref a_me, .ref a_le, .int 0, .ref a_mc, .ref a_mt, .ref a_mk, .ref a_my, .ref a_mb, .ref a_mx, .ref a_ml, .int 0, .ref a_mh, .ref a_mf, .int 0, .ref a_mz, .int 0])), (a_mr, .inl (k_mr, 410, .inl (upd (upd (upd (upd (upd (upd (upd (upd (upd (upd (fun _ => 0) (0 : Int32).toNatClampNeg (-1)) (1 : Int32).toNatClampNeg (-1)) (2 : Int32).toNatClampNeg (-1)) (3 : Int32).toNatClampNeg 0) (4 : Int32).toNatClampNeg 0) (5 : Int32).toNatClampNeg 0) (6 : Int32).toNatClampNeg 0) (7 : Int32).toNatClampNeg 7) (8 : Int32).toNatClampNeg 0) (9 : Int32).toNatClampNeg 0)))] H := hP
                                                          replace hD : va_D A [(a_m, .inr (5, [.int 0, .ref a_sa, .int 0, .int 0, .int 0, .ref a_mr, .ref a_me, .ref a_le, .int 0, .ref a_mc, .ref a_mt, .ref a_mk, .ref a_my, .ref a_mb, .ref a_mx, .ref a_ml, .int 0, .ref a_mh, .ref a_mf, .int 0, .ref a_mz, .int 0])), (a_mr, .inl (k_mr, 410, .inl (upd (upd (upd (upd (upd (upd (upd (upd (upd (upd (fun _ => 0) (0 : Int32).toNatClampNeg (-1)) (1 : Int32).toNatClampNeg (-1)) (2 : Int32).toNatClampNeg (-1)) (3 : Int32).toNatClampNeg 0) (4 : Int32).toNatClampNeg 0) (5 : Int32).toNatClampNeg 0) (6 : Int32).toNatClampNeg 0) (7 : Int32).toNatClampNeg 7) (8 : Int32).toNatClampNeg 0) (9 : Int32).toNatClampNeg 0)))] := hD
                                                          refine lv_iconst (v := 0) hx hb d_M_reads_54 (by decide) ?_
                                                          refine lv_istore_n (lv' := [(1, .int 0), (0, .ref a_m)]) hx hb d_M_reads_55 rfl hl (by decide) rfl (fun ls hl => ?_)
                                                          refine lv_aload_n hx hb d_M_reads_56 rfl (lv_at hl 1 rfl) ?_
                                                          refine va_get (D := (dC, dI)) (ci := 5) (v := .int 0) (C := "LoanRulesModel") (T := Fz_M) (N := 22) hx hb hts it_M hown hK hP 0 rfl rfl 3 (by decide) (hts _ tw_604) (fun _ h9 => h9) rfl d_M_reads_57 ?_
                                                          refine lv_aload_n hx hb d_M_reads_60 rfl (lv_at hl 1 rfl) ?_
                                                          refine va_get (D := (dC, dI)) (ci := 5) (v := .int 0) (C := "LoanRulesModel") (T := Fz_M) (N := 22) hx hb hts it_M hown hK hP 0 rfl rfl 2 (by decide) (hts _ tw_603) (fun _ h9 => h9) rfl d_M_reads_61 ?_
                                                          refine lv_icmp_lt (tgt := 72) hx hb d_M_reads_64 (by decide) (fun c_59 => ?_) (fun c_59 => ?_)
                                                          · exact absurd c_59 (by decide)
                                                          · refine lv_iload_n hx hb d_M_reads_67 rfl (lv_at hl 0 rfl) ?_
                                                            refine lv_iconst (v := 4) hx hb d_M_reads_68 (by decide) ?_
                                                            refine lv_icmp_ge (tgt := 180) hx hb d_M_reads_69 (by decide) (fun c_60 => ?_) (fun c_60 => ?_)
                                                            · exact absurd c_60 (by decide)
                                                            · refine lv_iload_n hx hb d_M_reads_72 rfl (lv_at hl 0 rfl) ?_
                                                              refine lv_if_le (tgt := 85) hx hb d_M_reads_73 (by decide) (fun c_61 => ?_) (fun c_61 => ?_)
                                                              · refine lv_aload_n hx hb d_M_reads_85 rfl (lv_at hl 1 rfl) ?_
                                                                have hPc := hP.sub (ws' := [(a_m, .inr (5, [.int 0, .ref a_sa, .int 0, .int 0, .int 0, .ref a_mr, .ref a_me, .ref a_le, .int 0, .ref a_mc, .ref a_mt, .ref a_mk, .ref a_my, .ref a_mb, .ref a_mx, .ref a_ml, .int 0, .ref a_mh, .ref a_mf, .int 0, .ref a_mz, .int 0]))]) [0] rfl
                                                                have hKc := hK.sub (tys' := []) [] rfl
                                                                refine vp_callSl (va_Run.run (va_runV (As := []) (rest := []) ⟨hx, hb, hml, hown, hts⟩ (c_Mo_word l dC dI adK adV (a_m := a_m) (a_sa := a_sa) (a_mr := a_mr) (a_me := a_me) (a_le := a_le) (a_mc := a_mc) (a_mt := a_mt) (a_mk := a_mk) (a_my := a_my) (a_mb := a_mb) (a_mx := a_mx) (a_ml := a_ml) (a_mh := a_mh) (a_mf := a_mf) (a_mz := a_mz)) (cwV 0 hts (gV tw_696 tw_698 tw_29 tw_46 tw_699) rfl rfl rfl (by decide +kernel) ⟨(Nat.le_of_ble_eq_true rfl), (Nat.le_of_ble_eq_true rfl)⟩) ⟨fun a U g mk q => by obtain ⟨q0, qZ, qP, qK⟩ := q; exact ⟨q0, zz_call qZ, qP, va_K.moved (u := U) (U := U.calling g mk a) (Vm.Alike.refl U.vm) qK⟩, va_recv hKc hPc (ci := 5) (q0 := 0) rfl rfl, fun U hU hW => ⟨rfl, zz_ro hS hU hW hZ, by rw [hU]; exact hPc, va_K.moved hW.alike hKc⟩⟩ rfl rfl hl.1 rfl (lv_room (Nat.le_of_ble_eq_true rfl)) d_M_reads_86 ⟨(Nat.le_of_ble_eq_true rfl), (Nat.le_of_ble_eq_true rfl)⟩)) (fun r_62 hw_63 => ?_)
                                                                obtain rfl : r_62 = 0 := hw_63
                                                                have hPc := hP.sub (ws' := []) [] rfl
                                                                have hKc := hK.sub (tys' := []) [] rfl
                                                                refine vp_callSi (va_Run.run (va_runS (As := [.long 0]) (rest := []) ⟨hx, hb, hml, hown, hts⟩ (c_Mo_step l dC dI adK adV) (va_cwS 1 hts (gS tw_703 tw_704 tw_46 tw_705) rfl rfl rfl (by decide +kernel) ⟨(Nat.le_of_ble_eq_true rfl), (Nat.le_of_ble_eq_true rfl)⟩) ⟨fun a U g mk q => by obtain ⟨q0, qZ, qP, qK⟩ := q; exact ⟨q0, zz_call qZ, qP, va_K.moved (u := U) (U := U.calling g mk a) (Vm.Alike.refl U.vm) qK⟩, fun U hU hW => ⟨rfl, zz_ro hS hU hW hZ, by rw [hU]; exact hPc, va_K.moved hW.alike hKc⟩⟩ rfl rfl hl.1 rfl (lv_room (Nat.le_of_ble_eq_true rfl)) d_M_reads_89 ⟨(Nat.le_of_ble_eq_true rfl), (Nat.le_of_ble_eq_true rfl)⟩)) (fun r_64 hw_65 => ?_)
                                                                obtain rfl : r_64 = 0 := hw_65
                                                                refine lv_istore_n (lv' := [(2, .int 0), (1, .int 0), (0, .ref a_m)]) hx hb d_M_reads_92 rfl hl (by decide) rfl (fun ls hl => ?_)
                                                                refine lv_iload_n hx hb d_M_reads_93 rfl (lv_at hl 0 rfl) ?_
                                                                refine lv_iload_n hx hb d_M_reads_94 rfl (lv_at hl 1 rfl) ?_
                                                                refine lv_icmp_le (tgt := 142) hx hb d_M_reads_95 (by decide) (fun c_66 => ?_) (fun c_66 => ?_)
                                                                · refine lv_iconst (v := 0) hx hb d_M_reads_142 (by decide) ?_
                                                                  refine lv_istore_n (lv' := [(3, .int 0), (2, .int 0), (1, .int 0), (0, .ref a_m)]) hx hb d_M_reads_143 rfl hl (by decide) rfl (fun ls hl => ?_)
                                                                  refine lv_iload_n hx hb d_M_reads_144 rfl (lv_at hl 1 rfl) ?_
                                                                  refine lv_if_eq (tgt := 152) hx hb d_M_reads_145 (by decide) (fun c_67 => ?_) (fun c_67 => ?_)
                                                                  · refine lv_aload_n hx hb d_M_reads_152 rfl (lv_at hl 3 rfl) ?_
                                                                    refine lv_aload_n hx hb d_M_reads_153 rfl (lv_at hl 3 rfl) ?_
                                                                    refine va_get (D := (dC, dI)) (ci := 5) (v := .int 0) (C := "LoanRulesModel") (T := Fz_M) (N := 22) hx hb hts it_M hown hK hP 0 rfl rfl 3 (by decide) (hts _ tw_604) (fun _ h9 => h9) rfl d_M_reads_154 ?_
                                                                    have hPc := hP.sub (ws' := [(a_m, .inr (5, [.int 0, .ref a_sa, .int 0, .int 0, .int 0, .ref a_mr, .ref a_me, .ref a_le, .int 0, .ref a_mc, .ref a_mt, .ref a_mk, .ref a_my, .ref a_mb, .ref a_mx, .ref a_ml, .int 0, .ref a_mh, .ref a_mf, .int 0, .ref a_mz, .int 0]))]) [0] rfl
                                                                    have hKc := hK.sub (tys' := []) [] rfl
                                                                    have hDc := hD.sub (ws' := [(a_m, .inr (5, [.int 0, .ref a_sa, .int 0, .int 0, .int 0, .ref a_mr, .ref a_me, .ref a_le, .int 0, .ref a_mc, .ref a_mt, .ref a_mk, .ref a_my, .ref a_mb, .ref a_mx, .ref a_ml, .int 0, .ref a_mh, .ref a_mf, .int 0, .ref a_mz, .int 0]))]) [0] (by decide) rfl
                                                                    have hFc := va_free (wc := [(a_m, .inr (5, [.int 0, .ref a_sa, .int 0, .int 0, .int 0, .ref a_mr, .ref a_me, .ref a_le, .int 0, .ref a_mc, .ref a_mt, .ref a_mk, .ref a_my, .ref a_mb, .ref a_mx, .ref a_ml, .int 0, .ref a_mh, .ref a_mf, .int 0, .ref a_mz, .int 0]))]) hD hS hA [0] rfl
                                                                    refine va_calli (va_runV (As := [.int 0]) (rest := []) ⟨hx, hb, hml, hown, hts⟩ (c_Mo_bad l dC dI adK adV (a_m := a_m) (p0 := 0) (a_sa := a_sa) (a_mr := a_mr) (a_me := a_me) (a_le := a_le) (a_mc := a_mc) (a_mt := a_mt) (a_mk := a_mk) (a_my := a_my) (a_mb := a_mb) (a_mx := a_mx) (a_ml := a_ml) (a_mh := a_mh) (a_mf := a_mf) (a_mz := a_mz) (sz := H.size)) (cwV 1 hts (gV tw_692 tw_694 tw_28 tw_46 tw_695) rfl rfl rfl (by decide +kernel) ⟨(Nat.le_of_ble_eq_true rfl), (Nat.le_of_ble_eq_true rfl)⟩) ⟨fun a U g mk q => by obtain ⟨q0, q1, qZ, qP, qK, qD⟩ := q; exact ⟨q0, q1, zz_call qZ, qP, va_K.moved (u := U) (U := U.calling g mk a) (Vm.Alike.refl U.vm) qK, qD⟩, va_recv hKc hPc (ci := 5) (q0 := 0) rfl rfl, fun U hU hW => ⟨rfl, by rw [hU], zz_rw hS hFc hU hW hZ, by rw [hU]; exact hPc, va_K.moved hW.alike hKc, hDc.weaken (fun _ _ _ _ => trivial)⟩⟩ rfl rfl hl.1 rfl (lv_room (Nat.le_of_ble_eq_true rfl)) d_M_reads_157 ⟨(Nat.le_of_ble_eq_true rfl), (Nat.le_of_ble_eq_true rfl)⟩) hS (fun q _ h => hFc q h) hFc (fun r_68 u t H1 locs ht hvm hw_69 hB hz1 hk1 hS => ?_)
                                                                    obtain rfl : r_68 = 0 := hw_69
                                                                    obtain ⟨hP1, hK1, hD1⟩ := hB
                                                                    rw [ht] at hP1
                                                                    have hK1 := va_K.moved hvm.symm hK1
                                                                    obtain ⟨hP, hD⟩ := va_join (wr := [(a_mr, .inl (k_mr, 410, .inl (upd (upd (upd (upd (upd (upd (upd (upd (upd (upd (fun _ => 0) (0 : Int32).toNatClampNeg (-1)) (1 : Int32).toNatClampNeg (-1)) (2 : Int32).toNatClampNeg (-1)) (3 : Int32).toNatClampNeg 0) (4 : Int32).toNatClampNeg 0) (5 : Int32).toNatClampNeg 0) (6 : Int32).toNatClampNeg 0) (7 : Int32).toNatClampNeg 7) (8 : Int32).toNatClampNeg 0) (9 : Int32).toNatClampNeg 0)))]) (w1 := [(a_m, .inr (5, [.int 0, .ref a_sa, .int 0, .int 0, .int 0, .ref a_mr, .ref a_me, .ref a_le, .int 0, .ref a_mc, .ref a_mt, .ref a_mk, .ref a_my, .ref a_mb, .ref a_mx, .ref a_ml, .int 0, .ref a_mh, .ref a_mf, .int 0, .ref a_mz, .int 0]))]) hP hD [0] [1] rfl rfl (by decide) (by decide) hk1 hFc hP1 hD1
                                                                    have hK := (hK.sub (tys' := [(k_mr, .int)]) [0] rfl).app hK1
                                                                    generalize H1 = H at hP hS ⊢
                                                                    replace hP : va_P (dC, dI) vwCl [(a_mr, .inl (k_mr, 410, .inl (upd (upd (upd (upd (upd (upd (upd (upd (upd (upd (fun _ => 0) (0 : Int32).toNatClampNeg (-1)) (1 : Int32).toNatClampNeg (-1)) (2 : Int32).toNatClampNeg (-1)) (3 : Int32).toNatClampNeg 0) (4 : Int32).toNatClampNeg 0) (5 : Int32).toNatClampNeg 0) (6 : Int32).toNatClampNeg 0) (7 : Int32).toNatClampNeg 7) (8 : Int32).toNatClampNeg 0) (9 : Int32).toNatClampNeg 0))), (a_m, .inr (5, [.int 0, .ref a_sa, .int 0, .int 0, .int 0, .ref a_mr, .ref a_me, .ref a_le, .int 0, .ref a_mc, .ref a_mt, .ref a_mk, .ref a_my, .ref a_mb, .ref a_mx, .ref a_ml, .int 0, .ref a_mh, .ref a_mf, .int 0, .ref a_mz, .int 0]))] H := hP
                                                                    replace hD : va_D A [(a_mr, .inl (k_mr, 410, .inl (upd (upd (upd (upd (upd (upd (upd (upd (upd (upd (fun _ => 0) (0 : Int32).toNatClampNeg (-1)) (1 : Int32).toNatClampNeg (-1)) (2 : Int32).toNatClampNeg (-1)) (3 : Int32).toNatClampNeg 0) (4 : Int32).toNatClampNeg 0) (5 : Int32).toNatClampNeg 0) (6 : Int32).toNatClampNeg 0) (7 : Int32).toNatClampNeg 7) (8 : Int32).toNatClampNeg 0) (9 : Int32).toNatClampNeg 0))), (a_m, .inr (5, [.int 0, .ref a_sa, .int 0, .int 0, .int 0, .ref a_mr, .ref a_me, .ref a_le, .int 0, .ref a_mc, .ref a_mt, .ref a_mk, .ref a_my, .ref a_mb, .ref a_mx, .ref a_ml, .int 0, .ref a_mh, .ref a_mf, .int 0, .ref a_mz, .int 0]))] := hD
                                                                    replace hK : va_K (dC, dI) vwCl [(k_mr, .int)] s := hK
                                                                    have hP9 := hP.sub (ws' := [(a_m, .inr (5, [.int 0, .ref a_sa, .int 0, .int 0, .int 0, .ref a_mr, .ref a_me, .ref a_le, .int 0, .ref a_mc, .ref a_mt, .ref a_mk, .ref a_my, .ref a_mb, .ref a_mx, .ref a_ml, .int 0, .ref a_mh, .ref a_mf, .int 0, .ref a_mz, .int 0]))]) [1] rfl
                                                                    have hD9 := hD.sub (ws' := [(a_m, .inr (5, [.int 0, .ref a_sa, .int 0, .int 0, .int 0, .ref a_mr, .ref a_me, .ref a_le, .int 0, .ref a_mc, .ref a_mt, .ref a_mk, .ref a_my, .ref a_mb, .ref a_mx, .ref a_ml, .int 0, .ref a_mh, .ref a_mf, .int 0, .ref a_mz, .int 0]))]) [1] (by decide) rfl
                                                                    have hK9 := hK.sub (tys' := []) [] rfl
                                                                    exact W.zret (v := 0) hx hb hr rfl (fun t ht hW => ⟨⟨0, (), rfl, rfl, by rw [ht]; exact hP9, va_K.moved hW.alike hK9, hD9⟩, hS.F ht⟩) hS.2.2 d_M_reads_160
                                                                  · exact absurd (by decide) c_67
                                                                · exact absurd (by decide) c_66
                                                              · exact absurd (by decide) c_61
                                                        · exact absurd (by decide) c_58
                                                      · exact absurd c_56 (by decide)
                                                    · exact absurd (by decide) c_55
                                                · exact absurd c_50 (by decide)
                                              · exact absurd (by decide) c_49
                                        · exact absurd (by decide) c_43
                                    · exact absurd c_38 (by decide)
                                  · exact absurd (by decide) c_37
                              · exact absurd c_32 (by decide)
                            · exact absurd (by decide) c_31
                        · exact absurd c_26 (by decide)
                      · exact absurd (by decide) c_25
                  · exact absurd c_20 (by decide)
                · exact absurd (by decide) c_19
set_option maxHeartbeats 4000000 in
set_option maxRecDepth 100000 in
theorem c_Mo_rule (l : Launch) (dC : Nat → ClassId) (dI : Nat → Nat → Nat) (adK adV : Nat → Nat) (a_m : Nat) (a_mr : Nat) (k_mr : ClassId) (a_sa : Nat) (a_me : Nat) (a_le : Nat) (a_mc : Nat) (a_mt : Nat) (a_mk : Nat) (a_my : Nat) (a_mb : Nat) (a_mx : Nat) (a_ml : Nat) (a_mh : Nat) (a_mf : Nat) (a_mz : Nat) (sz : Nat) : Met l y_M_rule ws_M_rule ({ frames := 3, cells := 0, slots := 0, locals := 67 }) (va_Pc [.ref a_m] (fun U => U.heap.size = sz ∧ zz adK adV (va_A [(a_m, .inr (5, [.int 0, .ref a_sa, .int 0, .int 0, .int 0, .ref a_mr, .ref a_me, .ref a_le, .int 0, .ref a_mc, .ref a_mt, .ref a_mk, .ref a_my, .ref a_mb, .ref a_mx, .ref a_ml, .int 0, .ref a_mh, .ref a_mf, .int 0, .ref a_mz, .int 0])), (a_mr, .inl (k_mr, 410, .inl (fun _ => 0)))] sz) U ∧ va_P (dC, dI) vwCl [(a_m, .inr (5, [.int 0, .ref a_sa, .int 0, .int 0, .int 0, .ref a_mr, .ref a_me, .ref a_le, .int 0, .ref a_mc, .ref a_mt, .ref a_mk, .ref a_my, .ref a_mb, .ref a_mx, .ref a_ml, .int 0, .ref a_mh, .ref a_mf, .int 0, .ref a_mz, .int 0])), (a_mr, .inl (k_mr, 410, .inl (fun _ => 0)))] U.heap ∧ va_K (dC, dI) vwCl [(k_mr, .int)] U ∧ va_D (fun _ => True) [(a_m, .inr (5, [.int 0, .ref a_sa, .int 0, .int 0, .int 0, .ref a_mr, .ref a_me, .ref a_le, .int 0, .ref a_mc, .ref a_mt, .ref a_mk, .ref a_my, .ref a_mb, .ref a_mx, .ref a_ml, .int 0, .ref a_mh, .ref a_mf, .int 0, .ref a_mz, .int 0])), (a_mr, .inl (k_mr, 410, .inl (fun _ => 0)))])) (va_Qi (fun (r : Int32) (_ : Unit) => r = (-1)) (fun (_ : Unit) (_ : State) => True) (va_A [(a_m, .inr (5, [.int 0, .ref a_sa, .int 0, .int 0, .int 0, .ref a_mr, .ref a_me, .ref a_le, .int 0, .ref a_mc, .ref a_mt, .ref a_mk, .ref a_my, .ref a_mb, .ref a_mx, .ref a_ml, .int 0, .ref a_mh, .ref a_mf, .int 0, .ref a_mz, .int 0])), (a_mr, .inl (k_mr, 410, .inl (fun _ => 0)))] sz)) 0 0 (va_A [(a_m, .inr (5, [.int 0, .ref a_sa, .int 0, .int 0, .int 0, .ref a_mr, .ref a_me, .ref a_le, .int 0, .ref a_mc, .ref a_mt, .ref a_mk, .ref a_my, .ref a_mb, .ref a_mx, .ref a_ml, .int 0, .ref a_mh, .ref a_mf, .int 0, .ref a_mz, .int 0])), (a_mr, .inl (k_mr, 410, .inl (fun _ => 0)))] sz) := by
  refine Met.ofW (cc := c_M_rule) (maxL := 2) (ret := (some .int)) (by decide) rfl ?_
  intro p e s m args below meth c s₁ B hml hv
  obtain ⟨rfl, hsz, hZ, hP, hK, hD0⟩ := hv
  have hx := B.exec
  have hb := B.bytes
  have hr := B.returns
  have hts0 := atoms_spec (ws := ws_M_rule) B.pre
  have hts : ∀ w ∈ TT, w.before _ s = true := fun w h => hts0 w (List.mem_cons_of_mem _ h)
  have hown : s.vm.findClass "LoanRulesModel" = some m.cls := findClass_of_methodNamed B.named
  have hlocks := B.notSynchronized
  subst hsz
  have hD := hD0.self (sz := s.heap.size)
  generalize hAe : va_A [(a_m, .inr (5, [.int 0, .ref a_sa, .int 0, .int 0, .int 0, .ref a_mr, .ref a_me, .ref a_le, .int 0, .ref a_mc, .ref a_mt, .ref a_mk, .ref a_my, .ref a_mb, .ref a_mx, .ref a_ml, .int 0, .ref a_mh, .ref a_mf, .int 0, .ref a_mz, .int 0])), (a_mr, .inl (k_mr, 410, .inl (fun _ => 0)))] s.heap.size = A at hD hZ ⊢
  have hA : ∀ q : Nat, s.heap.size ≤ q → A q := fun q h => by rw [← hAe]; exact Or.inr h
  clear hAe hD0
  have hS : va_S A s.heap s.heap [] := va_S.rf
  replace hP : va_P (dC, dI) vwCl [(a_m, .inr (5, [.int 0, .ref a_sa, .int 0, .int 0, .int 0, .ref a_mr, .ref a_me, .ref a_le, .int 0, .ref a_mc, .ref a_mt, .ref a_mk, .ref a_my, .ref a_mb, .ref a_mx, .ref a_ml, .int 0, .ref a_mh, .ref a_mf, .int 0, .ref a_mz, .int 0])), (a_mr, .inl (k_mr, 410, .inl (fun _ => 0)))] s.heap := hP
  have hl := lv_entry ([.ref a_m]) (n := 2) (Nat.le_of_ble_eq_true rfl)
  rw [lg_entry_eq]
  generalize (lg_sl ([.ref a_m]) ++ List.replicate (2 - (lg_sl ([.ref a_m])).length) Slot.unset).toArray = ls at hl ⊢
  replace hl : lv_has ls 2 [(0, .ref a_m)] := hl
  refine lv_aload_n hx hb d_M_rule_0 rfl (lv_at hl 0 rfl) ?_
  refine lv_iconst (v := 0) hx hb d_M_rule_1 (by decide) ?_
  refine va_put (D := (dC, dI)) (ci := 5) (v := .int 0) (ty := .int) (C := "LoanRulesModel") (T := Fz_M) (N := 22) hx hb hts it_M tz_M tz_M_ok nz_M hown hK hP hD hS 0 rfl rfl 0 (by decide) (hts _ tw_601) (fun _ h9 => h9) rfl (by decide +kernel) rfl rfl (Nat.le_of_ble_eq_true rfl) d_M_rule_2 (fun H locs hP hD hS => ?_)
  replace hP : va_P (dC, dI) vwCl [(a_m, .inr (5, [.int 0, .ref a_sa, .int 0, .int 0, .int 0, .ref a_mr, .ref a_me, .ref a_le, .int 0, .ref a_mc, .ref a_mt, .ref a_mk, .ref a_my, .ref a_mb, .ref a_mx, .ref a_ml, .int 0, .ref a_mh, .ref a_mf, .int 0, .ref a_mz, .int 0])), (a_mr, .inl (k_mr, 410, .inl (fun _ => 0)))] H := hP
  replace hD : va_D A [(a_m, .inr (5, [.int 0, .ref a_sa, .int 0, .int 0, .int 0, .ref a_mr, .ref a_me, .ref a_le, .int 0, .ref a_mc, .ref a_mt, .ref a_mk, .ref a_my, .ref a_mb, .ref a_mx, .ref a_ml, .int 0, .ref a_mh, .ref a_mf, .int 0, .ref a_mz, .int 0])), (a_mr, .inl (k_mr, 410, .inl (fun _ => 0)))] := hD
  refine lv_aload_n hx hb d_M_rule_5 rfl (lv_at hl 0 rfl) ?_
  have hPc := hP.sub (ws' := [(a_m, .inr (5, [.int 0, .ref a_sa, .int 0, .int 0, .int 0, .ref a_mr, .ref a_me, .ref a_le, .int 0, .ref a_mc, .ref a_mt, .ref a_mk, .ref a_my, .ref a_mb, .ref a_mx, .ref a_ml, .int 0, .ref a_mh, .ref a_mf, .int 0, .ref a_mz, .int 0])), (a_mr, .inl (k_mr, 410, .inl (fun _ => 0)))]) [0, 1] rfl
  have hKc := hK.sub (tys' := [(k_mr, .int)]) [0] rfl
  have hDc := hD.sub (ws' := [(a_m, .inr (5, [.int 0, .ref a_sa, .int 0, .int 0, .int 0, .ref a_mr, .ref a_me, .ref a_le, .int 0, .ref a_mc, .ref a_mt, .ref a_mk, .ref a_my, .ref a_mb, .ref a_mx, .ref a_ml, .int 0, .ref a_mh, .ref a_mf, .int 0, .ref a_mz, .int 0])), (a_mr, .inl (k_mr, 410, .inl (fun _ => 0)))]) [0, 1] (by decide) rfl
  have hFc := va_free (wc := [(a_m, .inr (5, [.int 0, .ref a_sa, .int 0, .int 0, .int 0, .ref a_mr, .ref a_me, .ref a_le, .int 0, .ref a_mc, .ref a_mt, .ref a_mk, .ref a_my, .ref a_mb, .ref a_mx, .ref a_ml, .int 0, .ref a_mh, .ref a_mf, .int 0, .ref a_mz, .int 0])), (a_mr, .inl (k_mr, 410, .inl (fun _ => 0)))]) hD hS hA [0, 1] rfl
  refine va_calli (va_runV (As := []) (rest := []) ⟨hx, hb, hml, hown, hts⟩ (c_Mo_reads l dC dI adK adV (a_m := a_m) (a_sa := a_sa) (a_mr := a_mr) (a_me := a_me) (a_le := a_le) (a_mc := a_mc) (a_mt := a_mt) (a_mk := a_mk) (a_my := a_my) (a_mb := a_mb) (a_mx := a_mx) (a_ml := a_ml) (a_mh := a_mh) (a_mf := a_mf) (a_mz := a_mz) (k_mr := k_mr) (sz := H.size)) (cwV 0 hts (gV tw_680 tw_682 tw_25 tw_46 tw_683) rfl rfl rfl (by decide +kernel) ⟨(Nat.le_of_ble_eq_true rfl), (Nat.le_of_ble_eq_true rfl)⟩) ⟨fun a U g mk q => by obtain ⟨q0, q1, qZ, qP, qK, qD⟩ := q; exact ⟨q0, q1, zz_call qZ, qP, va_K.moved (u := U) (U := U.calling g mk a) (Vm.Alike.refl U.vm) qK, qD⟩, va_recv hKc hPc (ci := 5) (q0 := 0) rfl rfl, fun U hU hW => ⟨rfl, by rw [hU], zz_rw hS hFc hU hW hZ, by rw [hU]; exact hPc, va_K.moved hW.alike hKc, hDc.weaken (fun _ _ _ _ => trivial)⟩⟩ rfl rfl hl.1 rfl (lv_room (Nat.le_of_ble_eq_true rfl)) d_M_rule_6 ⟨(Nat.le_of_ble_eq_true rfl), (Nat.le_of_ble_eq_true rfl)⟩) hS (fun q _ h => hFc q h) hFc (fun r_1 u t H1 locs ht hvm hw_2 hB hz1 hk1 hS => ?_)
  obtain rfl : r_1 = 0 := hw_2
  obtain ⟨hP1, hK1, hD1⟩ := hB
  rw [ht] at hP1
  have hK1 := va_K.moved hvm.symm hK1
  obtain ⟨hP, hD⟩ := va_join (wr := []) (w1 := [(a_m, .inr (5, [.int 0, .ref a_sa, .int 0, .int 0, .int 0, .ref a_mr, .ref a_me, .ref a_le, .int 0, .ref a_mc, .ref a_mt, .ref a_mk, .ref a_my, .ref a_mb, .ref a_mx, .ref a_ml, .int 0, .ref a_mh, .ref a_mf, .int 0, .ref a_mz, .int 0]))]) hP hD [0, 1] [] rfl rfl (by decide) (by decide) hk1 hFc hP1 hD1
  have hK := (hK.sub (tys' := []) [] rfl).app hK1
  generalize H1 = H at hP hS ⊢
  replace hP : va_P (dC, dI) vwCl [(a_m, .inr (5, [.int 0, .ref a_sa, .int 0, .int 0, .int 0, .ref a_mr, .ref a_me, .ref a_le, .int 0, .ref a_mc, .ref a_mt, .ref a_mk, .ref a_my, .ref a_mb, .ref a_mx, .ref a_ml, .int 0, .ref a_mh, .ref a_mf, .int 0, .ref a_mz, .int 0]))] H := hP
  replace hD : va_D A [(a_m, .inr (5, [.int 0, .ref a_sa, .int 0, .int 0, .int 0, .ref a_mr, .ref a_me, .ref a_le, .int 0, .ref a_mc, .ref a_mt, .ref a_mk, .ref a_my, .ref a_mb, .ref a_mx, .ref a_ml, .int 0, .ref a_mh, .ref a_mf, .int 0, .ref a_mz, .int 0]))] := hD
  replace hK : va_K (dC, dI) vwCl [] s := hK
  refine lv_istore_n (lv' := [(1, .int 0), (0, .ref a_m)]) hx hb d_M_rule_9 rfl hl (by decide) rfl (fun ls hl => ?_)
  refine lv_aload_n hx hb d_M_rule_10 rfl (lv_at hl 1 rfl) ?_
  refine lv_iconst (v := 0) hx hb d_M_rule_11 (by decide) ?_
  refine va_put (D := (dC, dI)) (ci := 5) (v := .int 0) (ty := .int) (C := "LoanRulesModel") (T := Fz_M) (N := 22) hx hb hts it_M tz_M tz_M_ok nz_M hown hK hP hD hS 0 rfl rfl 2 (by decide) (hts _ tw_603) (fun _ h9 => h9) rfl (by decide +kernel) rfl rfl (Nat.le_of_ble_eq_true rfl) d_M_rule_12 (fun H locs hP hD hS => ?_)
  replace hP : va_P (dC, dI) vwCl [(a_m, .inr (5, [.int 0, .ref a_sa, .int 0, .int 0, .int 0, .ref a_mr, .ref a_me, .ref a_le, .int 0, .ref a_mc, .ref a_mt, .ref a_mk, .ref a_my, .ref a_mb, .ref a_mx, .ref a_ml, .int 0, .ref a_mh, .ref a_mf, .int 0, .ref a_mz, .int 0]))] H := hP
  replace hD : va_D A [(a_m, .inr (5, [.int 0, .ref a_sa, .int 0, .int 0, .int 0, .ref a_mr, .ref a_me, .ref a_le, .int 0, .ref a_mc, .ref a_mt, .ref a_mk, .ref a_my, .ref a_mb, .ref a_mx, .ref a_ml, .int 0, .ref a_mh, .ref a_mf, .int 0, .ref a_mz, .int 0]))] := hD
  refine lv_iload_n hx hb d_M_rule_15 rfl (lv_at hl 0 rfl) ?_
  refine lv_if_ne (tgt := 26) hx hb d_M_rule_16 (by decide) (fun c_3 => ?_) (fun c_3 => ?_)
  · exact absurd (by decide) c_3
  · refine lv_iconst (v := (-1)) hx hb d_M_rule_19 (by decide) ?_
    refine lv_aload_n hx hb d_M_rule_20 rfl (lv_at hl 1 rfl) ?_
    refine va_get (D := (dC, dI)) (ci := 5) (v := .int 0) (C := "LoanRulesModel") (T := Fz_M) (N := 22) hx hb hts it_M hown hK hP 0 rfl rfl 4 (by decide) (hts _ tw_605) (fun _ h9 => h9) rfl d_M_rule_21 ?_
    refine lv_isub hx hb d_M_rule_24 ?_
    refine lv_topi (fun x_4 ex_4 => ?_)
    obtain rfl : x_4 = (-1) := ex_4.trans (by decide)
    exact W.iret (v := (-1)) hx hb hr (fun t ht hW => ⟨⟨(-1), (), rfl, rfl, trivial⟩, hS.F ht⟩) hS.2.2 d_M_rule_25
set_option maxHeartbeats 4000000 in
set_option maxRecDepth 100000 in
theorem c_Mo_closed (l : Launch) (dC : Nat → ClassId) (dI : Nat → Nat → Nat) (adK adV : Nat → Nat) (a_m : Nat) (a_mc : Nat) (k_mc : ClassId) (p0 : Int32) (p1 : Int32) (a_sa : Nat) (a_mr : Nat) (a_me : Nat) (a_le : Nat) (a_mt : Nat) (a_mk : Nat) (a_my : Nat) (a_mb : Nat) (a_mx : Nat) (a_ml : Nat) (a_mh : Nat) (a_mf : Nat) (a_mz : Nat) (sz : Nat) : Met l y_M_closed ws_M_closed ({ frames := 1, cells := 0, slots := 0, locals := 20 }) (va_Pc [.ref a_m, .int p0, .int p1] (fun U => U.heap.size = sz ∧ zz adK adV (va_A [(a_m, .inr (5, [.int 0, .ref a_sa, .int 0, .int 0, .int 0, .ref a_mr, .ref a_me, .ref a_le, .int 0, .ref a_mc, .ref a_mt, .ref a_mk, .ref a_my, .ref a_mb, .ref a_mx, .ref a_ml, .int 0, .ref a_mh, .ref a_mf, .int 0, .ref a_mz, .int 0])), (a_mc, .inl (k_mc, 10000, .inl (fun _ => 0)))] sz) U ∧ va_P (dC, dI) vwCl [(a_m, .inr (5, [.int 0, .ref a_sa, .int 0, .int 0, .int 0, .ref a_mr, .ref a_me, .ref a_le, .int 0, .ref a_mc, .ref a_mt, .ref a_mk, .ref a_my, .ref a_mb, .ref a_mx, .ref a_ml, .int 0, .ref a_mh, .ref a_mf, .int 0, .ref a_mz, .int 0])), (a_mc, .inl (k_mc, 10000, .inl (fun _ => 0)))] U.heap ∧ va_K (dC, dI) vwCl [(k_mc, .boolean)] U ∧ va_D (fun _ => True) [(a_m, .inr (5, [.int 0, .ref a_sa, .int 0, .int 0, .int 0, .ref a_mr, .ref a_me, .ref a_le, .int 0, .ref a_mc, .ref a_mt, .ref a_mk, .ref a_my, .ref a_mb, .ref a_mx, .ref a_ml, .int 0, .ref a_mh, .ref a_mf, .int 0, .ref a_mz, .int 0])), (a_mc, .inl (k_mc, 10000, .inl (fun _ => 0)))])) (va_Qi (fun (r : Int32) (_ : Unit) => r = 0) (fun (_ : Unit) (_ : State) => True) (va_A [(a_m, .inr (5, [.int 0, .ref a_sa, .int 0, .int 0, .int 0, .ref a_mr, .ref a_me, .ref a_le, .int 0, .ref a_mc, .ref a_mt, .ref a_mk, .ref a_my, .ref a_mb, .ref a_mx, .ref a_ml, .int 0, .ref a_mh, .ref a_mf, .int 0, .ref a_mz, .int 0])), (a_mc, .inl (k_mc, 10000, .inl (fun _ => 0)))] sz)) 0 0 (va_A [(a_m, .inr (5, [.int 0, .ref a_sa, .int 0, .int 0, .int 0, .ref a_mr, .ref a_me, .ref a_le, .int 0, .ref a_mc, .ref a_mt, .ref a_mk, .ref a_my, .ref a_mb, .ref a_mx, .ref a_ml, .int 0, .ref a_mh, .ref a_mf, .int 0, .ref a_mz, .int 0])), (a_mc, .inl (k_mc, 10000, .inl (fun _ => 0)))] sz) := by
  refine Met.ofW (cc := c_M_closed) (maxL := 4) (ret := (some .boolean)) (by decide) rfl ?_
  intro p e s m args below meth c s₁ B hml hv
  obtain ⟨rfl, hsz, hZ, hP, hK, hD0⟩ := hv
  have hx := B.exec
  have hb := B.bytes
  have hr := B.returns
  have hts0 := atoms_spec (ws := ws_M_closed) B.pre
  have hts : ∀ w ∈ TT, w.before _ s = true := fun w h => hts0 w (List.mem_cons_of_mem _ h)
  have hown : s.vm.findClass "LoanRulesModel" = some m.cls := findClass_of_methodNamed B.named
  have hlocks := B.notSynchronized
  subst hsz
  have hD := hD0.self (sz := s.heap.size)
  generalize hAe : va_A [(a_m, .inr (5, [.int 0, .ref a_sa, .int 0, .int 0, .int 0, .ref a_mr, .ref a_me, .ref a_le, .int 0, .ref a_mc, .ref a_mt, .ref a_mk, .ref a_my, .ref a_mb, .ref a_mx, .ref a_ml, .int 0, .ref a_mh, .ref a_mf, .int 0, .ref a_mz, .int 0])), (a_mc, .inl (k_mc, 10000, .inl (fun _ => 0)))] s.heap.size = A at hD hZ ⊢
  have hA : ∀ q : Nat, s.heap.size ≤ q → A q := fun q h => by rw [← hAe]; exact Or.inr h
  clear hAe hD0
  have hS : va_S A s.heap s.heap [] := va_S.rf
  replace hP : va_P (dC, dI) vwCl [(a_m, .inr (5, [.int 0, .ref a_sa, .int 0, .int 0, .int 0, .ref a_mr, .ref a_me, .ref a_le, .int 0, .ref a_mc, .ref a_mt, .ref a_mk, .ref a_my, .ref a_mb, .ref a_mx, .ref a_ml, .int 0, .ref a_mh, .ref a_mf, .int 0, .ref a_mz, .int 0])), (a_mc, .inl (k_mc, 10000, .inl (fun _ => 0)))] s.heap := hP
  have hl := lv_entry ([.ref a_m, .int p0, .int p1]) (n := 4) (Nat.le_of_ble_eq_true rfl)
  rw [lg_entry_eq]
  generalize (lg_sl ([.ref a_m, .int p0, .int p1]) ++ List.replicate (4 - (lg_sl ([.ref a_m, .int p0, .int p1])).length) Slot.unset).toArray = ls at hl ⊢
  replace hl : lv_has ls 4 [(0, .ref a_m), (1, .int p0), (2, .int p1)] := hl
  refine lv_aload_n hx hb d_M_closed_0 rfl (lv_at hl 0 rfl) ?_
  refine lv_iconst (v := 0) hx hb d_M_closed_1 (by decide) ?_
  refine va_put (D := (dC, dI)) (ci := 5) (v := .int 0) (ty := .int) (C := "LoanRulesModel") (T := Fz_M) (N := 22) hx hb hts it_M tz_M tz_M_ok nz_M hown hK hP hD hS 0 rfl rfl 0 (by decide) (hts _ tw_601) (fun _ h9 => h9) rfl (by decide +kernel) rfl rfl (Nat.le_of_ble_eq_true rfl) d_M_closed_2 (fun H locs hP hD hS => ?_)
  replace hP : va_P (dC, dI) vwCl [(a_m, .inr (5, [.int 0, .ref a_sa, .int 0, .int 0, .int 0, .ref a_mr, .ref a_me, .ref a_le, .int 0, .ref a_mc, .ref a_mt, .ref a_mk, .ref a_my, .ref a_mb, .ref a_mx, .ref a_ml, .int 0, .ref a_mh, .ref a_mf, .int 0, .ref a_mz, .int 0])), (a_mc, .inl (k_mc, 10000, .inl (fun _ => 0)))] H := hP
  replace hD : va_D A [(a_m, .inr (5, [.int 0, .ref a_sa, .int 0, .int 0, .int 0, .ref a_mr, .ref a_me, .ref a_le, .int 0, .ref a_mc, .ref a_mt, .ref a_mk, .ref a_my, .ref a_mb, .ref a_mx, .ref a_ml, .int 0, .ref a_mh, .ref a_mf, .int 0, .ref a_mz, .int 0])), (a_mc, .inl (k_mc, 10000, .inl (fun _ => 0)))] := hD
  refine lv_iload_n hx hb d_M_closed_5 rfl (lv_at hl 1 rfl) ?_
  have hPc := hP.sub (ws' := []) [] rfl
  have hKc := hK.sub (tys' := []) [] rfl
  refine vp_callSi (va_Run.run (va_runS (As := [.int p0]) (rest := []) ⟨hx, hb, hml, hown, hts⟩ (c_Mo_isDay l dC dI adK adV (p0 := p0)) (va_cwS 1 hts (gS tw_740 tw_741 tw_46 tw_742) rfl rfl rfl (by decide +kernel) ⟨(Nat.le_of_ble_eq_true rfl), (Nat.le_of_ble_eq_true rfl)⟩) ⟨fun a U g mk q => by obtain ⟨q0, qZ, qP, qK⟩ := q; exact ⟨q0, zz_call qZ, qP, va_K.moved (u := U) (U := U.calling g mk a) (Vm.Alike.refl U.vm) qK⟩, fun U hU hW => ⟨rfl, zz_ro hS hU hW hZ, by rw [hU]; exact hPc, va_K.moved hW.alike hKc⟩⟩ rfl rfl hl.1 rfl (lv_room (Nat.le_of_ble_eq_true rfl)) d_M_closed_6 ⟨(Nat.le_of_ble_eq_true rfl), (Nat.le_of_ble_eq_true rfl)⟩)) (fun r_1 hw_2 => ?_)
  subst hw_2
  refine lv_if_ne (tgt := 14) hx hb d_M_closed_9 (by decide) (fun c_3 => ?_) (fun c_3 => ?_)
  · refine lv_aload_n hx hb d_M_closed_14 rfl (lv_at hl 0 rfl) ?_
    refine va_get (D := (dC, dI)) (ci := 5) (v := .ref a_mc) (C := "LoanRulesModel") (T := Fz_M) (N := 22) hx hb hts it_M hown hK hP 0 rfl rfl 9 (by decide) (hts _ tw_610) (fun _ h9 => h9) rfl d_M_closed_15 ?_
    refine lv_iload_n hx hb d_M_closed_18 rfl (lv_at hl 1 rfl) ?_
    have i_4 : vp_in p0 10000 := in_dayM c_3
    refine va_zald (D := (dC, dI)) hx hb hK hP 1 0 rfl rfl i_4 d_M_closed_19 ?_
    refine lv_topi (fun x_5 ex_5 => ?_)
    obtain rfl : x_5 = 0 := ex_5
    refine lv_istore_n (lv' := [(3, .int 0), (0, .ref a_m), (1, .int p0), (2, .int p1)]) hx hb d_M_closed_20 rfl hl (by decide) rfl (fun ls hl => ?_)
    refine lv_aload_n hx hb d_M_closed_21 rfl (lv_at hl 1 rfl) ?_
    refine va_get (D := (dC, dI)) (ci := 5) (v := .ref a_mc) (C := "LoanRulesModel") (T := Fz_M) (N := 22) hx hb hts it_M hown hK hP 0 rfl rfl 9 (by decide) (hts _ tw_610) (fun _ h9 => h9) rfl d_M_closed_22 ?_
    refine lv_iload_n hx hb d_M_closed_25 rfl (lv_at hl 2 rfl) ?_
    refine lv_iload_n hx hb d_M_closed_26 rfl (lv_at hl 3 rfl) ?_
    have i_6 : vp_in p0 10000 := in_dayM c_3
    refine va_zast (D := (dC, dI)) hx hb hK hP hD hS 1 0 rfl rfl i_6 d_M_closed_27 (fun H locs hP hD hS => ?_)
    replace hP : va_P (dC, dI) vwCl [(a_m, .inr (5, [.int 0, .ref a_sa, .int 0, .int 0, .int 0, .ref a_mr, .ref a_me, .ref a_le, .int 0, .ref a_mc, .ref a_mt, .ref a_mk, .ref a_my, .ref a_mb, .ref a_mx, .ref a_ml, .int 0, .ref a_mh, .ref a_mf, .int 0, .ref a_mz, .int 0])), (a_mc, .inl (k_mc, 10000, .inl (upd (fun _ => 0) p0.toNatClampNeg (vp_nar .boolean p1))))] H := hP
    replace hD : va_D A [(a_m, .inr (5, [.int 0, .ref a_sa, .int 0, .int 0, .int 0, .ref a_mr, .ref a_me, .ref a_le, .int 0, .ref a_mc, .ref a_mt, .ref a_mk, .ref a_my, .ref a_mb, .ref a_mx, .ref a_ml, .int 0, .ref a_mh, .ref a_mf, .int 0, .ref a_mz, .int 0])), (a_mc, .inl (k_mc, 10000, .inl (upd (fun _ => 0) p0.toNatClampNeg (vp_nar .boolean p1))))] := hD
    refine lv_iload_n hx hb d_M_closed_28 rfl (lv_at hl 0 rfl) ?_
    exact W.zret (v := 0) hx hb hr rfl (fun t ht hW => ⟨⟨0, (), rfl, rfl, trivial⟩, hS.F ht⟩) hS.2.2 d_M_closed_29
  · refine lv_iconst (v := 0) hx hb d_M_closed_12 (by decide) ?_
    exact W.zret (v := 0) hx hb hr rfl (fun t ht hW => ⟨⟨0, (), rfl, rfl, trivial⟩, hS.F ht⟩) hS.2.2 d_M_closed_13
def g_Mo_term (p0 : Int32) : Int32 :=
  if (g_Mo_isDay p0) = 0 then
    0
  else
    1
set_option maxHeartbeats 4000000 in
set_option maxRecDepth 100000 in
theorem c_Mo_term (l : Launch) (dC : Nat → ClassId) (dI : Nat → Nat → Nat) (adK adV : Nat → Nat) (a_m : Nat) (a_mt : Nat) (k_mt : ClassId) (p0 : Int32) (a_sa : Nat) (a_mr : Nat) (a_me : Nat) (a_le : Nat) (a_mc : Nat) (a_mk : Nat) (a_my : Nat) (a_mb : Nat) (a_mx : Nat) (a_ml : Nat) (a_mh : Nat) (a_mf : Nat) (a_mz : Nat) (sz : Nat) : Met l y_M_term ws_M_term ({ frames := 1, cells := 0, slots := 0, locals := 20 }) (va_Pc [.ref a_m, .int p0] (fun U => U.heap.size = sz ∧ zz adK adV (va_A [(a_m, .inr (5, [.int 0, .ref a_sa, .int 0, .int 0, .int 0, .ref a_mr, .ref a_me, .ref a_le, .int 0, .ref a_mc, .ref a_mt, .ref a_mk, .ref a_my, .ref a_mb, .ref a_mx, .ref a_ml, .int 0, .ref a_mh, .ref a_mf, .int 0, .ref a_mz, .int 0])), (a_mt, .inl (k_mt, 10000, .inl (fun _ => 0)))] sz) U ∧ va_P (dC, dI) vwCl [(a_m, .inr (5, [.int 0, .ref a_sa, .int 0, .int 0, .int 0, .ref a_mr, .ref a_me, .ref a_le, .int 0, .ref a_mc, .ref a_mt, .ref a_mk, .ref a_my, .ref a_mb, .ref a_mx, .ref a_ml, .int 0, .ref a_mh, .ref a_mf, .int 0, .ref a_mz, .int 0])), (a_mt, .inl (k_mt, 10000, .inl (fun _ => 0)))] U.heap ∧ va_K (dC, dI) vwCl [(k_mt, .boolean)] U ∧ va_D (fun _ => True) [(a_m, .inr (5, [.int 0, .ref a_sa, .int 0, .int 0, .int 0, .ref a_mr, .ref a_me, .ref a_le, .int 0, .ref a_mc, .ref a_mt, .ref a_mk, .ref a_my, .ref a_mb, .ref a_mx, .ref a_ml, .int 0, .ref a_mh, .ref a_mf, .int 0, .ref a_mz, .int 0])), (a_mt, .inl (k_mt, 10000, .inl (fun _ => 0)))])) (va_Qi (fun (r : Int32) (_ : Unit) => r = g_Mo_term p0) (fun (_ : Unit) (_ : State) => True) (va_A [(a_m, .inr (5, [.int 0, .ref a_sa, .int 0, .int 0, .int 0, .ref a_mr, .ref a_me, .ref a_le, .int 0, .ref a_mc, .ref a_mt, .ref a_mk, .ref a_my, .ref a_mb, .ref a_mx, .ref a_ml, .int 0, .ref a_mh, .ref a_mf, .int 0, .ref a_mz, .int 0])), (a_mt, .inl (k_mt, 10000, .inl (fun _ => 0)))] sz)) 0 0 (va_A [(a_m, .inr (5, [.int 0, .ref a_sa, .int 0, .int 0, .int 0, .ref a_mr, .ref a_me, .ref a_le, .int 0, .ref a_mc, .ref a_mt, .ref a_mk, .ref a_my, .ref a_mb, .ref a_mx, .ref a_ml, .int 0, .ref a_mh, .ref a_mf, .int 0, .ref a_mz, .int 0])), (a_mt, .inl (k_mt, 10000, .inl (fun _ => 0)))] sz) := by
  refine Met.ofW (cc := c_M_term) (maxL := 2) (ret := (some .int)) (by decide) rfl ?_
  intro p e s m args below meth c s₁ B hml hv
  obtain ⟨rfl, hsz, hZ, hP, hK, hD0⟩ := hv
  have hx := B.exec
  have hb := B.bytes
  have hr := B.returns
  have hts0 := atoms_spec (ws := ws_M_term) B.pre
  have hts : ∀ w ∈ TT, w.before _ s = true := fun w h => hts0 w (List.mem_cons_of_mem _ h)
  have hown : s.vm.findClass "LoanRulesModel" = some m.cls := findClass_of_methodNamed B.named
  have hlocks := B.notSynchronized
  subst hsz
  have hD := hD0.self (sz := s.heap.size)
  generalize hAe : va_A [(a_m, .inr (5, [.int 0, .ref a_sa, .int 0, .int 0, .int 0, .ref a_mr, .ref a_me, .ref a_le, .int 0, .ref a_mc, .ref a_mt, .ref a_mk, .ref a_my, .ref a_mb, .ref a_mx, .ref a_ml, .int 0, .ref a_mh, .ref a_mf, .int 0, .ref a_mz, .int 0])), (a_mt, .inl (k_mt, 10000, .inl (fun _ => 0)))] s.heap.size = A at hD hZ ⊢
  have hA : ∀ q : Nat, s.heap.size ≤ q → A q := fun q h => by rw [← hAe]; exact Or.inr h
  clear hAe hD0
  have hS : va_S A s.heap s.heap [] := va_S.rf
  replace hP : va_P (dC, dI) vwCl [(a_m, .inr (5, [.int 0, .ref a_sa, .int 0, .int 0, .int 0, .ref a_mr, .ref a_me, .ref a_le, .int 0, .ref a_mc, .ref a_mt, .ref a_mk, .ref a_my, .ref a_mb, .ref a_mx, .ref a_ml, .int 0, .ref a_mh, .ref a_mf, .int 0, .ref a_mz, .int 0])), (a_mt, .inl (k_mt, 10000, .inl (fun _ => 0)))] s.heap := hP
  have hl := lv_entry ([.ref a_m, .int p0]) (n := 2) (Nat.le_of_ble_eq_true rfl)
  rw [lg_entry_eq]
  generalize (lg_sl ([.ref a_m, .int p0]) ++ List.replicate (2 - (lg_sl ([.ref a_m, .int p0])).length) Slot.unset).toArray = ls at hl ⊢
  replace hl : lv_has ls 2 [(0, .ref a_m), (1, .int p0)] := hl
  obtain ⟨z, hz⟩ : ∃ z, z = g_Mo_term p0 := ⟨_, rfl⟩
  have hE := hz
  rw [g_Mo_term] at hE
  refine lv_aload_n hx hb d_M_term_0 rfl (lv_at hl 0 rfl) ?_
  refine lv_iconst (v := 0) hx hb d_M_term_1 (by decide) ?_
  refine va_put (D := (dC, dI)) (ci := 5) (v := .int 0) (ty := .int) (C := "LoanRulesModel") (T := Fz_M) (N := 22) hx hb hts it_M tz_M tz_M_ok nz_M hown hK hP hD hS 0 rfl rfl 0 (by decide) (hts _ tw_601) (fun _ h9 => h9) rfl (by decide +kernel) rfl rfl (Nat.le_of_ble_eq_true rfl) d_M_term_2 (fun H locs hP hD hS => ?_)
  replace hP : va_P (dC, dI) vwCl [(a_m, .inr (5, [.int 0, .ref a_sa, .int 0, .int 0, .int 0, .ref a_mr, .ref a_me, .ref a_le, .int 0, .ref a_mc, .ref a_mt, .ref a_mk, .ref a_my, .ref a_mb, .ref a_mx, .ref a_ml, .int 0, .ref a_mh, .ref a_mf, .int 0, .ref a_mz, .int 0])), (a_mt, .inl (k_mt, 10000, .inl (fun _ => 0)))] H := hP
  replace hD : va_D A [(a_m, .inr (5, [.int 0, .ref a_sa, .int 0, .int 0, .int 0, .ref a_mr, .ref a_me, .ref a_le, .int 0, .ref a_mc, .ref a_mt, .ref a_mk, .ref a_my, .ref a_mb, .ref a_mx, .ref a_ml, .int 0, .ref a_mh, .ref a_mf, .int 0, .ref a_mz, .int 0])), (a_mt, .inl (k_mt, 10000, .inl (fun _ => 0)))] := hD
  refine lv_iload_n hx hb d_M_term_5 rfl (lv_at hl 1 rfl) ?_
  have hPc := hP.sub (ws' := []) [] rfl
  have hKc := hK.sub (tys' := []) [] rfl
  refine vp_callSi (va_Run.run (va_runS (As := [.int p0]) (rest := []) ⟨hx, hb, hml, hown, hts⟩ (c_Mo_isDay l dC dI adK adV (p0 := p0)) (va_cwS 1 hts (gS tw_740 tw_741 tw_46 tw_742) rfl rfl rfl (by decide +kernel) ⟨(Nat.le_of_ble_eq_true rfl), (Nat.le_of_ble_eq_true rfl)⟩) ⟨fun a U g mk q => by obtain ⟨q0, qZ, qP, qK⟩ := q; exact ⟨q0, zz_call qZ, qP, va_K.moved (u := U) (U := U.calling g mk a) (Vm.Alike.refl U.vm) qK⟩, fun U hU hW => ⟨rfl, zz_ro hS hU hW hZ, by rw [hU]; exact hPc, va_K.moved hW.alike hKc⟩⟩ rfl rfl hl.1 rfl (lv_room (Nat.le_of_ble_eq_true rfl)) d_M_term_6 ⟨(Nat.le_of_ble_eq_true rfl), (Nat.le_of_ble_eq_true rfl)⟩)) (fun r_1 hw_2 => ?_)
  subst hw_2
  refine lv_if_eq (tgt := 21) hx hb d_M_term_9 (by decide) (fun c_3 => ?_) (fun c_3 => ?_)
  · rw [if_pos c_3] at hE
    refine lv_iconst (v := 0) hx hb d_M_term_21 (by decide) ?_
    exact W.iret (v := 0) hx hb hr (fun t ht hW => ⟨⟨0, (), rfl, hE.symm.trans hz, trivial⟩, hS.F ht⟩) hS.2.2 d_M_term_22
  · rw [if_neg c_3] at hE
    refine lv_aload_n hx hb d_M_term_12 rfl (lv_at hl 0 rfl) ?_
    refine va_get (D := (dC, dI)) (ci := 5) (v := .ref a_mt) (C := "LoanRulesModel") (T := Fz_M) (N := 22) hx hb hts it_M hown hK hP 0 rfl rfl 10 (by decide) (hts _ tw_611) (fun _ h9 => h9) rfl d_M_term_13 ?_
    refine lv_iload_n hx hb d_M_term_16 rfl (lv_at hl 1 rfl) ?_
    have i_4 : vp_in p0 10000 := in_dayM c_3
    refine va_zald (D := (dC, dI)) hx hb hK hP 1 0 rfl rfl i_4 d_M_term_17 ?_
    refine lv_topi (fun x_5 ex_5 => ?_)
    obtain rfl : x_5 = 0 := ex_5
    refine lv_if_eq (tgt := 23) hx hb d_M_term_18 (by decide) (fun c_6 => ?_) (fun c_6 => ?_)
    · refine lv_aload_n hx hb d_M_term_23 rfl (lv_at hl 0 rfl) ?_
      refine va_get (D := (dC, dI)) (ci := 5) (v := .ref a_mt) (C := "LoanRulesModel") (T := Fz_M) (N := 22) hx hb hts it_M hown hK hP 0 rfl rfl 10 (by decide) (hts _ tw_611) (fun _ h9 => h9) rfl d_M_term_24 ?_
      refine lv_iload_n hx hb d_M_term_27 rfl (lv_at hl 1 rfl) ?_
      refine lv_iconst (v := 1) hx hb d_M_term_28 (by decide) ?_
      have i_7 : vp_in p0 10000 := in_dayM c_3
      refine va_zast (D := (dC, dI)) hx hb hK hP hD hS 1 0 rfl rfl i_7 d_M_term_29 (fun H locs hP hD hS => ?_)
      replace hP : va_P (dC, dI) vwCl [(a_m, .inr (5, [.int 0, .ref a_sa, .int 0, .int 0, .int 0, .ref a_mr, .ref a_me, .ref a_le, .int 0, .ref a_mc, .ref a_mt, .ref a_mk, .ref a_my, .ref a_mb, .ref a_mx, .ref a_ml, .int 0, .ref a_mh, .ref a_mf, .int 0, .ref a_mz, .int 0])), (a_mt, .inl (k_mt, 10000, .inl (upd (fun _ => 0) p0.toNatClampNeg (vp_nar .boolean 1))))] H := hP
      replace hD : va_D A [(a_m, .inr (5, [.int 0, .ref a_sa, .int 0, .int 0, .int 0, .ref a_mr, .ref a_me, .ref a_le, .int 0, .ref a_mc, .ref a_mt, .ref a_mk, .ref a_my, .ref a_mb, .ref a_mx, .ref a_ml, .int 0, .ref a_mh, .ref a_mf, .int 0, .ref a_mz, .int 0])), (a_mt, .inl (k_mt, 10000, .inl (upd (fun _ => 0) p0.toNatClampNeg (vp_nar .boolean 1))))] := hD
      refine lv_iconst (v := 1) hx hb d_M_term_30 (by decide) ?_
      exact W.iret (v := 1) hx hb hr (fun t ht hW => ⟨⟨1, (), rfl, hE.symm.trans hz, trivial⟩, hS.F ht⟩) hS.2.2 d_M_term_31
    · exact absurd (by decide) c_6
def g_Mo_row (p0 : Int32) (p1 : Int32) (p2 : Int32) : Int32 :=
  if p0 < 0 then
    0
  else
    if 1 < p0 then
      0
    else
      if (g_Mo_isPerson p1) = 0 then
        0
      else
        if p2 < 0 then
          0
        else
          if p2 ≤ 9 then
            1
          else
            0
set_option maxHeartbeats 4000000 in
set_option maxRecDepth 100000 in
theorem c_Mo_row (l : Launch) (dC : Nat → ClassId) (dI : Nat → Nat → Nat) (adK adV : Nat → Nat) (a_m : Nat) (a_mk : Nat) (a_my : Nat) (k_mk : ClassId) (k_my : ClassId) (p0 : Int32) (p1 : Int32) (p2 : Int32) (a_sa : Nat) (a_mr : Nat) (a_me : Nat) (a_le : Nat) (a_mc : Nat) (a_mt : Nat) (a_mb : Nat) (a_mx : Nat) (a_ml : Nat) (a_mh : Nat) (a_mf : Nat) (a_mz : Nat) (sz : Nat) : Met l y_M_row ws_M_row ({ frames := 1, cells := 0, slots := 0, locals := 20 }) (va_Pc [.ref a_m, .int p0, .int p1, .int p2] (fun U => U.heap.size = sz ∧ zz adK adV (va_A [(a_m, .inr (5, [.int 0, .ref a_sa, .int 0, .int 0, .int 0, .ref a_mr, .ref a_me, .ref a_le, .int 0, .ref a_mc, .ref a_mt, .ref a_mk, .ref a_my, .ref a_mb, .ref a_mx, .ref a_ml, .int 0, .ref a_mh, .ref a_mf, .int 0, .ref a_mz, .int 0])), (a_mk, .inl (k_mk, 50, .inl (fun _ => 0))), (a_my, .inl (k_my, 50, .inl (fun _ => 0)))] sz) U ∧ va_P (dC, dI) vwCl [(a_m, .inr (5, [.int 0, .ref a_sa, .int 0, .int 0, .int 0, .ref a_mr, .ref a_me, .ref a_le, .int 0, .ref a_mc, .ref a_mt, .ref a_mk, .ref a_my, .ref a_mb, .ref a_mx, .ref a_ml, .int 0, .ref a_mh, .ref a_mf, .int 0, .ref a_mz, .int 0])), (a_mk, .inl (k_mk, 50, .inl (fun _ => 0))), (a_my, .inl (k_my, 50, .inl (fun _ => 0)))] U.heap ∧ va_K (dC, dI) vwCl [(k_mk, .int), (k_my, .int)] U ∧ va_D (fun _ => True) [(a_m, .inr (5, [.int 0, .ref a_sa, .int 0, .int 0, .int 0, .ref a_mr, .ref a_me, .ref a_le, .int 0, .ref a_mc, .ref a_mt, .ref a_mk, .ref a_my, .ref a_mb, .ref a_mx, .ref a_ml, .int 0, .ref a_mh, .ref a_mf, .int 0, .ref a_mz, .int 0])), (a_mk, .inl (k_mk, 50, .inl (fun _ => 0))), (a_my, .inl (k_my, 50, .inl (fun _ => 0)))])) (va_Qi (fun (r : Int32) (_ : Unit) => r = g_Mo_row p0 p1 p2) (fun (_ : Unit) (_ : State) => True) (va_A [(a_m, .inr (5, [.int 0, .ref a_sa, .int 0, .int 0, .int 0, .ref a_mr, .ref a_me, .ref a_le, .int 0, .ref a_mc, .ref a_mt, .ref a_mk, .ref a_my, .ref a_mb, .ref a_mx, .ref a_ml, .int 0, .ref a_mh, .ref a_mf, .int 0, .ref a_mz, .int 0])), (a_mk, .inl (k_mk, 50, .inl (fun _ => 0))), (a_my, .inl (k_my, 50, .inl (fun _ => 0)))] sz)) 0 0 (va_A [(a_m, .inr (5, [.int 0, .ref a_sa, .int 0, .int 0, .int 0, .ref a_mr, .ref a_me, .ref a_le, .int 0, .ref a_mc, .ref a_mt, .ref a_mk, .ref a_my, .ref a_mb, .ref a_mx, .ref a_ml, .int 0, .ref a_mh, .ref a_mf, .int 0, .ref a_mz, .int 0])), (a_mk, .inl (k_mk, 50, .inl (fun _ => 0))), (a_my, .inl (k_my, 50, .inl (fun _ => 0)))] sz) := by
  refine Met.ofW (cc := c_M_row) (maxL := 4) (ret := (some .int)) (by decide) rfl ?_
  intro p e s m args below meth c s₁ B hml hv
  obtain ⟨rfl, hsz, hZ, hP, hK, hD0⟩ := hv
  have hx := B.exec
  have hb := B.bytes
  have hr := B.returns
  have hts0 := atoms_spec (ws := ws_M_row) B.pre
  have hts : ∀ w ∈ TT, w.before _ s = true := fun w h => hts0 w (List.mem_cons_of_mem _ h)
  have hown : s.vm.findClass "LoanRulesModel" = some m.cls := findClass_of_methodNamed B.named
  have hlocks := B.notSynchronized
  subst hsz
  have hD := hD0.self (sz := s.heap.size)
  generalize hAe : va_A [(a_m, .inr (5, [.int 0, .ref a_sa, .int 0, .int 0, .int 0, .ref a_mr, .ref a_me, .ref a_le, .int 0, .ref a_mc, .ref a_mt, .ref a_mk, .ref a_my, .ref a_mb, .ref a_mx, .ref a_ml, .int 0, .ref a_mh, .ref a_mf, .int 0, .ref a_mz, .int 0])), (a_mk, .inl (k_mk, 50, .inl (fun _ => 0))), (a_my, .inl (k_my, 50, .inl (fun _ => 0)))] s.heap.size = A at hD hZ ⊢
  have hA : ∀ q : Nat, s.heap.size ≤ q → A q := fun q h => by rw [← hAe]; exact Or.inr h
  clear hAe hD0
  have hS : va_S A s.heap s.heap [] := va_S.rf
  replace hP : va_P (dC, dI) vwCl [(a_m, .inr (5, [.int 0, .ref a_sa, .int 0, .int 0, .int 0, .ref a_mr, .ref a_me, .ref a_le, .int 0, .ref a_mc, .ref a_mt, .ref a_mk, .ref a_my, .ref a_mb, .ref a_mx, .ref a_ml, .int 0, .ref a_mh, .ref a_mf, .int 0, .ref a_mz, .int 0])), (a_mk, .inl (k_mk, 50, .inl (fun _ => 0))), (a_my, .inl (k_my, 50, .inl (fun _ => 0)))] s.heap := hP
  have hl := lv_entry ([.ref a_m, .int p0, .int p1, .int p2]) (n := 4) (Nat.le_of_ble_eq_true rfl)
  rw [lg_entry_eq]
  generalize (lg_sl ([.ref a_m, .int p0, .int p1, .int p2]) ++ List.replicate (4 - (lg_sl ([.ref a_m, .int p0, .int p1, .int p2])).length) Slot.unset).toArray = ls at hl ⊢
  replace hl : lv_has ls 4 [(0, .ref a_m), (1, .int p0), (2, .int p1), (3, .int p2)] := hl
  obtain ⟨z, hz⟩ : ∃ z, z = g_Mo_row p0 p1 p2 := ⟨_, rfl⟩
  have hE := hz
  rw [g_Mo_row] at hE
  refine lv_aload_n hx hb d_M_row_0 rfl (lv_at hl 0 rfl) ?_
  refine lv_iconst (v := 0) hx hb d_M_row_1 (by decide) ?_
  refine va_put (D := (dC, dI)) (ci := 5) (v := .int 0) (ty := .int) (C := "LoanRulesModel") (T := Fz_M) (N := 22) hx hb hts it_M tz_M tz_M_ok nz_M hown hK hP hD hS 0 rfl rfl 0 (by decide) (hts _ tw_601) (fun _ h9 => h9) rfl (by decide +kernel) rfl rfl (Nat.le_of_ble_eq_true rfl) d_M_row_2 (fun H locs hP hD hS => ?_)
  replace hP : va_P (dC, dI) vwCl [(a_m, .inr (5, [.int 0, .ref a_sa, .int 0, .int 0, .int 0, .ref a_mr, .ref a_me, .ref a_le, .int 0, .ref a_mc, .ref a_mt, .ref a_mk, .ref a_my, .ref a_mb, .ref a_mx, .ref a_ml, .int 0, .ref a_mh, .ref a_mf, .int 0, .ref a_mz, .int 0])), (a_mk, .inl (k_mk, 50, .inl (fun _ => 0))), (a_my, .inl (k_my, 50, .inl (fun _ => 0)))] H := hP
  replace hD : va_D A [(a_m, .inr (5, [.int 0, .ref a_sa, .int 0, .int 0, .int 0, .ref a_mr, .ref a_me, .ref a_le, .int 0, .ref a_mc, .ref a_mt, .ref a_mk, .ref a_my, .ref a_mb, .ref a_mx, .ref a_ml, .int 0, .ref a_mh, .ref a_mf, .int 0, .ref a_mz, .int 0])), (a_mk, .inl (k_mk, 50, .inl (fun _ => 0))), (a_my, .inl (k_my, 50, .inl (fun _ => 0)))] := hD
  refine lv_iload_n hx hb d_M_row_5 rfl (lv_at hl 1 rfl) ?_
  refine lv_if_lt (tgt := 31) hx hb d_M_row_6 (by decide) (fun c_1 => ?_) (fun c_1 => ?_)
  · rw [if_pos c_1] at hE
    refine lv_iconst (v := 0) hx hb d_M_row_31 (by decide) ?_
    exact W.iret (v := 0) hx hb hr (fun t ht hW => ⟨⟨0, (), rfl, hE.symm.trans hz, trivial⟩, hS.F ht⟩) hS.2.2 d_M_row_32
  · rw [if_neg c_1] at hE
    refine lv_iload_n hx hb d_M_row_9 rfl (lv_at hl 1 rfl) ?_
    refine lv_iconst (v := 1) hx hb d_M_row_10 (by decide) ?_
    refine lv_icmp_gt (tgt := 31) hx hb d_M_row_11 (by decide) (fun c_2 => ?_) (fun c_2 => ?_)
    · rw [if_pos c_2] at hE
      refine lv_iconst (v := 0) hx hb d_M_row_31 (by decide) ?_
      exact W.iret (v := 0) hx hb hr (fun t ht hW => ⟨⟨0, (), rfl, hE.symm.trans hz, trivial⟩, hS.F ht⟩) hS.2.2 d_M_row_32
    · rw [if_neg c_2] at hE
      refine lv_iload_n hx hb d_M_row_14 rfl (lv_at hl 2 rfl) ?_
      have hPc := hP.sub (ws' := []) [] rfl
      have hKc := hK.sub (tys' := []) [] rfl
      refine vp_callSi (va_Run.run (va_runS (As := [.int p1]) (rest := []) ⟨hx, hb, hml, hown, hts⟩ (c_Mo_isPerson l dC dI adK adV (p0 := p1)) (va_cwS 1 hts (gS tw_751 tw_752 tw_46 tw_753) rfl rfl rfl (by decide +kernel) ⟨(Nat.le_of_ble_eq_true rfl), (Nat.le_of_ble_eq_true rfl)⟩) ⟨fun a U g mk q => by obtain ⟨q0, qZ, qP, qK⟩ := q; exact ⟨q0, zz_call qZ, qP, va_K.moved (u := U) (U := U.calling g mk a) (Vm.Alike.refl U.vm) qK⟩, fun U hU hW => ⟨rfl, zz_ro hS hU hW hZ, by rw [hU]; exact hPc, va_K.moved hW.alike hKc⟩⟩ rfl rfl hl.1 rfl (lv_room (Nat.le_of_ble_eq_true rfl)) d_M_row_15 ⟨(Nat.le_of_ble_eq_true rfl), (Nat.le_of_ble_eq_true rfl)⟩)) (fun r_3 hw_4 => ?_)
      subst hw_4
      refine lv_if_eq (tgt := 31) hx hb d_M_row_18 (by decide) (fun c_5 => ?_) (fun c_5 => ?_)
      · rw [if_pos c_5] at hE
        refine lv_iconst (v := 0) hx hb d_M_row_31 (by decide) ?_
        exact W.iret (v := 0) hx hb hr (fun t ht hW => ⟨⟨0, (), rfl, hE.symm.trans hz, trivial⟩, hS.F ht⟩) hS.2.2 d_M_row_32
      · rw [if_neg c_5] at hE
        refine lv_iload_n hx hb d_M_row_21 rfl (lv_at hl 3 rfl) ?_
        refine lv_if_lt (tgt := 31) hx hb d_M_row_22 (by decide) (fun c_6 => ?_) (fun c_6 => ?_)
        · rw [if_pos c_6] at hE
          refine lv_iconst (v := 0) hx hb d_M_row_31 (by decide) ?_
          exact W.iret (v := 0) hx hb hr (fun t ht hW => ⟨⟨0, (), rfl, hE.symm.trans hz, trivial⟩, hS.F ht⟩) hS.2.2 d_M_row_32
        · rw [if_neg c_6] at hE
          refine lv_iload_n hx hb d_M_row_25 rfl (lv_at hl 3 rfl) ?_
          refine lv_bipush (v := 9) hx hb d_M_row_26 (by decide) ?_
          refine lv_icmp_le (tgt := 33) hx hb d_M_row_28 (by decide) (fun c_7 => ?_) (fun c_7 => ?_)
          · rw [if_pos c_7] at hE
            refine lv_iload_n hx hb d_M_row_33 rfl (lv_at hl 1 rfl) ?_
            refine lv_if_ne (tgt := 47) hx hb d_M_row_34 (by decide) (fun c_8 => ?_) (fun c_8 => ?_)
            · refine lv_aload_n hx hb d_M_row_47 rfl (lv_at hl 0 rfl) ?_
              refine va_get (D := (dC, dI)) (ci := 5) (v := .ref a_my) (C := "LoanRulesModel") (T := Fz_M) (N := 22) hx hb hts it_M hown hK hP 0 rfl rfl 12 (by decide) (hts _ tw_613) (fun _ h9 => h9) rfl d_M_row_48 ?_
              refine lv_iload_n hx hb d_M_row_51 rfl (lv_at hl 2 rfl) ?_
              refine lv_iload_n hx hb d_M_row_52 rfl (lv_at hl 3 rfl) ?_
              have i_9 : vp_in p1 50 := in_personM c_5
              refine va_iast (D := (dC, dI)) hx hb hK hP hD hS 2 1 rfl rfl i_9 d_M_row_53 (fun H locs hP hD hS => ?_)
              replace hP : va_P (dC, dI) vwCl [(a_m, .inr (5, [.int 0, .ref a_sa, .int 0, .int 0, .int 0, .ref a_mr, .ref a_me, .ref a_le, .int 0, .ref a_mc, .ref a_mt, .ref a_mk, .ref a_my, .ref a_mb, .ref a_mx, .ref a_ml, .int 0, .ref a_mh, .ref a_mf, .int 0, .ref a_mz, .int 0])), (a_mk, .inl (k_mk, 50, .inl (fun _ => 0))), (a_my, .inl (k_my, 50, .inl (upd (fun _ => 0) p1.toNatClampNeg p2)))] H := hP
              replace hD : va_D A [(a_m, .inr (5, [.int 0, .ref a_sa, .int 0, .int 0, .int 0, .ref a_mr, .ref a_me, .ref a_le, .int 0, .ref a_mc, .ref a_mt, .ref a_mk, .ref a_my, .ref a_mb, .ref a_mx, .ref a_ml, .int 0, .ref a_mh, .ref a_mf, .int 0, .ref a_mz, .int 0])), (a_mk, .inl (k_mk, 50, .inl (fun _ => 0))), (a_my, .inl (k_my, 50, .inl (upd (fun _ => 0) p1.toNatClampNeg p2)))] := hD
              refine lv_iconst (v := 1) hx hb d_M_row_54 (by decide) ?_
              exact W.iret (v := 1) hx hb hr (fun t ht hW => ⟨⟨1, (), rfl, hE.symm.trans hz, trivial⟩, hS.F ht⟩) hS.2.2 d_M_row_55
            · refine lv_aload_n hx hb d_M_row_37 rfl (lv_at hl 0 rfl) ?_
              refine va_get (D := (dC, dI)) (ci := 5) (v := .ref a_mk) (C := "LoanRulesModel") (T := Fz_M) (N := 22) hx hb hts it_M hown hK hP 0 rfl rfl 11 (by decide) (hts _ tw_612) (fun _ h9 => h9) rfl d_M_row_38 ?_
              refine lv_iload_n hx hb d_M_row_41 rfl (lv_at hl 2 rfl) ?_
              refine lv_iload_n hx hb d_M_row_42 rfl (lv_at hl 3 rfl) ?_
              have i_10 : vp_in p1 50 := in_personM c_5
              refine va_iast (D := (dC, dI)) hx hb hK hP hD hS 1 0 rfl rfl i_10 d_M_row_43 (fun H locs hP hD hS => ?_)
              replace hP : va_P (dC, dI) vwCl [(a_m, .inr (5, [.int 0, .ref a_sa, .int 0, .int 0, .int 0, .ref a_mr, .ref a_me, .ref a_le, .int 0, .ref a_mc, .ref a_mt, .ref a_mk, .ref a_my, .ref a_mb, .ref a_mx, .ref a_ml, .int 0, .ref a_mh, .ref a_mf, .int 0, .ref a_mz, .int 0])), (a_mk, .inl (k_mk, 50, .inl (upd (fun _ => 0) p1.toNatClampNeg p2))), (a_my, .inl (k_my, 50, .inl (fun _ => 0)))] H := hP
              replace hD : va_D A [(a_m, .inr (5, [.int 0, .ref a_sa, .int 0, .int 0, .int 0, .ref a_mr, .ref a_me, .ref a_le, .int 0, .ref a_mc, .ref a_mt, .ref a_mk, .ref a_my, .ref a_mb, .ref a_mx, .ref a_ml, .int 0, .ref a_mh, .ref a_mf, .int 0, .ref a_mz, .int 0])), (a_mk, .inl (k_mk, 50, .inl (upd (fun _ => 0) p1.toNatClampNeg p2))), (a_my, .inl (k_my, 50, .inl (fun _ => 0)))] := hD
              refine lv_goto (tgt := 54) hx hb d_M_row_44 (by decide) ?_
              refine lv_iconst (v := 1) hx hb d_M_row_54 (by decide) ?_
              exact W.iret (v := 1) hx hb hr (fun t ht hW => ⟨⟨1, (), rfl, hE.symm.trans hz, trivial⟩, hS.F ht⟩) hS.2.2 d_M_row_55
          · rw [if_neg c_7] at hE
            refine lv_iconst (v := 0) hx hb d_M_row_31 (by decide) ?_
            exact W.iret (v := 0) hx hb hr (fun t ht hW => ⟨⟨0, (), rfl, hE.symm.trans hz, trivial⟩, hS.F ht⟩) hS.2.2 d_M_row_32
def g_Mo_block (p0 : Int32) (p1 : Int32) : Int32 :=
  if (g_Mo_isPerson p0) = 0 then
    (-1)
  else
    if p1 < 0 then
      (-1)
    else
      if p1 ≤ 9 then
        0
      else
        (-1)
set_option maxHeartbeats 4000000 in
set_option maxRecDepth 100000 in
theorem c_Mo_block (l : Launch) (dC : Nat → ClassId) (dI : Nat → Nat → Nat) (adK adV : Nat → Nat) (a_m : Nat) (a_mb : Nat) (k_mb : ClassId) (p0 : Int32) (p1 : Int32) (a_sa : Nat) (a_mr : Nat) (a_me : Nat) (a_le : Nat) (a_mc : Nat) (a_mt : Nat) (a_mk : Nat) (a_my : Nat) (a_mx : Nat) (a_ml : Nat) (a_mh : Nat) (a_mf : Nat) (a_mz : Nat) (sz : Nat) : Met l y_M_block ws_M_block ({ frames := 1, cells := 0, slots := 0, locals := 20 }) (va_Pc [.ref a_m, .int p0, .int p1] (fun U => U.heap.size = sz ∧ zz adK adV (va_A [(a_m, .inr (5, [.int 0, .ref a_sa, .int 0, .int 0, .int 0, .ref a_mr, .ref a_me, .ref a_le, .int 0, .ref a_mc, .ref a_mt, .ref a_mk, .ref a_my, .ref a_mb, .ref a_mx, .ref a_ml, .int 0, .ref a_mh, .ref a_mf, .int 0, .ref a_mz, .int 0])), (a_mb, .inl (k_mb, 50, .inl (fun _ => 0)))] sz) U ∧ va_P (dC, dI) vwCl [(a_m, .inr (5, [.int 0, .ref a_sa, .int 0, .int 0, .int 0, .ref a_mr, .ref a_me, .ref a_le, .int 0, .ref a_mc, .ref a_mt, .ref a_mk, .ref a_my, .ref a_mb, .ref a_mx, .ref a_ml, .int 0, .ref a_mh, .ref a_mf, .int 0, .ref a_mz, .int 0])), (a_mb, .inl (k_mb, 50, .inl (fun _ => 0)))] U.heap ∧ va_K (dC, dI) vwCl [(k_mb, .int)] U ∧ va_D (fun _ => True) [(a_m, .inr (5, [.int 0, .ref a_sa, .int 0, .int 0, .int 0, .ref a_mr, .ref a_me, .ref a_le, .int 0, .ref a_mc, .ref a_mt, .ref a_mk, .ref a_my, .ref a_mb, .ref a_mx, .ref a_ml, .int 0, .ref a_mh, .ref a_mf, .int 0, .ref a_mz, .int 0])), (a_mb, .inl (k_mb, 50, .inl (fun _ => 0)))])) (va_Qi (fun (r : Int32) (_ : Unit) => r = g_Mo_block p0 p1) (fun (_ : Unit) (_ : State) => True) (va_A [(a_m, .inr (5, [.int 0, .ref a_sa, .int 0, .int 0, .int 0, .ref a_mr, .ref a_me, .ref a_le, .int 0, .ref a_mc, .ref a_mt, .ref a_mk, .ref a_my, .ref a_mb, .ref a_mx, .ref a_ml, .int 0, .ref a_mh, .ref a_mf, .int 0, .ref a_mz, .int 0])), (a_mb, .inl (k_mb, 50, .inl (fun _ => 0)))] sz)) 0 0 (va_A [(a_m, .inr (5, [.int 0, .ref a_sa, .int 0, .int 0, .int 0, .ref a_mr, .ref a_me, .ref a_le, .int 0, .ref a_mc, .ref a_mt, .ref a_mk, .ref a_my, .ref a_mb, .ref a_mx, .ref a_ml, .int 0, .ref a_mh, .ref a_mf, .int 0, .ref a_mz, .int 0])), (a_mb, .inl (k_mb, 50, .inl (fun _ => 0)))] sz) := by
  refine Met.ofW (cc := c_M_block) (maxL := 4) (ret := (some .int)) (by decide) rfl ?_
  intro p e s m args below meth c s₁ B hml hv
  obtain ⟨rfl, hsz, hZ, hP, hK, hD0⟩ := hv
  have hx := B.exec
  have hb := B.bytes
  have hr := B.returns
  have hts0 := atoms_spec (ws := ws_M_block) B.pre
  have hts : ∀ w ∈ TT, w.before _ s = true := fun w h => hts0 w (List.mem_cons_of_mem _ h)
  have hown : s.vm.findClass "LoanRulesModel" = some m.cls := findClass_of_methodNamed B.named
  have hlocks := B.notSynchronized
  subst hsz
  have hD := hD0.self (sz := s.heap.size)
  generalize hAe : va_A [(a_m, .inr (5, [.int 0, .ref a_sa, .int 0, .int 0, .int 0, .ref a_mr, .ref a_me, .ref a_le, .int 0, .ref a_mc, .ref a_mt, .ref a_mk, .ref a_my, .ref a_mb, .ref a_mx, .ref a_ml, .int 0, .ref a_mh, .ref a_mf, .int 0, .ref a_mz, .int 0])), (a_mb, .inl (k_mb, 50, .inl (fun _ => 0)))] s.heap.size = A at hD hZ ⊢
  have hA : ∀ q : Nat, s.heap.size ≤ q → A q := fun q h => by rw [← hAe]; exact Or.inr h
  clear hAe hD0
  have hS : va_S A s.heap s.heap [] := va_S.rf
  replace hP : va_P (dC, dI) vwCl [(a_m, .inr (5, [.int 0, .ref a_sa, .int 0, .int 0, .int 0, .ref a_mr, .ref a_me, .ref a_le, .int 0, .ref a_mc, .ref a_mt, .ref a_mk, .ref a_my, .ref a_mb, .ref a_mx, .ref a_ml, .int 0, .ref a_mh, .ref a_mf, .int 0, .ref a_mz, .int 0])), (a_mb, .inl (k_mb, 50, .inl (fun _ => 0)))] s.heap := hP
  have hl := lv_entry ([.ref a_m, .int p0, .int p1]) (n := 4) (Nat.le_of_ble_eq_true rfl)
  rw [lg_entry_eq]
  generalize (lg_sl ([.ref a_m, .int p0, .int p1]) ++ List.replicate (4 - (lg_sl ([.ref a_m, .int p0, .int p1])).length) Slot.unset).toArray = ls at hl ⊢
  replace hl : lv_has ls 4 [(0, .ref a_m), (1, .int p0), (2, .int p1)] := hl
  obtain ⟨z, hz⟩ : ∃ z, z = g_Mo_block p0 p1 := ⟨_, rfl⟩
  have hE := hz
  rw [g_Mo_block] at hE
  refine lv_aload_n hx hb d_M_block_0 rfl (lv_at hl 0 rfl) ?_
  refine lv_iconst (v := 0) hx hb d_M_block_1 (by decide) ?_
  refine va_put (D := (dC, dI)) (ci := 5) (v := .int 0) (ty := .int) (C := "LoanRulesModel") (T := Fz_M) (N := 22) hx hb hts it_M tz_M tz_M_ok nz_M hown hK hP hD hS 0 rfl rfl 0 (by decide) (hts _ tw_601) (fun _ h9 => h9) rfl (by decide +kernel) rfl rfl (Nat.le_of_ble_eq_true rfl) d_M_block_2 (fun H locs hP hD hS => ?_)
  replace hP : va_P (dC, dI) vwCl [(a_m, .inr (5, [.int 0, .ref a_sa, .int 0, .int 0, .int 0, .ref a_mr, .ref a_me, .ref a_le, .int 0, .ref a_mc, .ref a_mt, .ref a_mk, .ref a_my, .ref a_mb, .ref a_mx, .ref a_ml, .int 0, .ref a_mh, .ref a_mf, .int 0, .ref a_mz, .int 0])), (a_mb, .inl (k_mb, 50, .inl (fun _ => 0)))] H := hP
  replace hD : va_D A [(a_m, .inr (5, [.int 0, .ref a_sa, .int 0, .int 0, .int 0, .ref a_mr, .ref a_me, .ref a_le, .int 0, .ref a_mc, .ref a_mt, .ref a_mk, .ref a_my, .ref a_mb, .ref a_mx, .ref a_ml, .int 0, .ref a_mh, .ref a_mf, .int 0, .ref a_mz, .int 0])), (a_mb, .inl (k_mb, 50, .inl (fun _ => 0)))] := hD
  refine lv_iload_n hx hb d_M_block_5 rfl (lv_at hl 1 rfl) ?_
  have hPc := hP.sub (ws' := []) [] rfl
  have hKc := hK.sub (tys' := []) [] rfl
  refine vp_callSi (va_Run.run (va_runS (As := [.int p0]) (rest := []) ⟨hx, hb, hml, hown, hts⟩ (c_Mo_isPerson l dC dI adK adV (p0 := p0)) (va_cwS 1 hts (gS tw_751 tw_752 tw_46 tw_753) rfl rfl rfl (by decide +kernel) ⟨(Nat.le_of_ble_eq_true rfl), (Nat.le_of_ble_eq_true rfl)⟩) ⟨fun a U g mk q => by obtain ⟨q0, qZ, qP, qK⟩ := q; exact ⟨q0, zz_call qZ, qP, va_K.moved (u := U) (U := U.calling g mk a) (Vm.Alike.refl U.vm) qK⟩, fun U hU hW => ⟨rfl, zz_ro hS hU hW hZ, by rw [hU]; exact hPc, va_K.moved hW.alike hKc⟩⟩ rfl rfl hl.1 rfl (lv_room (Nat.le_of_ble_eq_true rfl)) d_M_block_6 ⟨(Nat.le_of_ble_eq_true rfl), (Nat.le_of_ble_eq_true rfl)⟩)) (fun r_1 hw_2 => ?_)
  subst hw_2
  refine lv_if_eq (tgt := 22) hx hb d_M_block_9 (by decide) (fun c_3 => ?_) (fun c_3 => ?_)
  · rw [if_pos c_3] at hE
    refine lv_iconst (v := (-1)) hx hb d_M_block_22 (by decide) ?_
    exact W.iret (v := (-1)) hx hb hr (fun t ht hW => ⟨⟨(-1), (), rfl, hE.symm.trans hz, trivial⟩, hS.F ht⟩) hS.2.2 d_M_block_23
  · rw [if_neg c_3] at hE
    refine lv_iload_n hx hb d_M_block_12 rfl (lv_at hl 2 rfl) ?_
    refine lv_if_lt (tgt := 22) hx hb d_M_block_13 (by decide) (fun c_4 => ?_) (fun c_4 => ?_)
    · rw [if_pos c_4] at hE
      refine lv_iconst (v := (-1)) hx hb d_M_block_22 (by decide) ?_
      exact W.iret (v := (-1)) hx hb hr (fun t ht hW => ⟨⟨(-1), (), rfl, hE.symm.trans hz, trivial⟩, hS.F ht⟩) hS.2.2 d_M_block_23
    · rw [if_neg c_4] at hE
      refine lv_iload_n hx hb d_M_block_16 rfl (lv_at hl 2 rfl) ?_
      refine lv_bipush (v := 9) hx hb d_M_block_17 (by decide) ?_
      refine lv_icmp_le (tgt := 24) hx hb d_M_block_19 (by decide) (fun c_5 => ?_) (fun c_5 => ?_)
      · rw [if_pos c_5] at hE
        refine lv_aload_n hx hb d_M_block_24 rfl (lv_at hl 0 rfl) ?_
        refine va_get (D := (dC, dI)) (ci := 5) (v := .ref a_mb) (C := "LoanRulesModel") (T := Fz_M) (N := 22) hx hb hts it_M hown hK hP 0 rfl rfl 13 (by decide) (hts _ tw_614) (fun _ h9 => h9) rfl d_M_block_25 ?_
        refine lv_iload_n hx hb d_M_block_28 rfl (lv_at hl 1 rfl) ?_
        have i_6 : vp_in p0 50 := in_personM c_3
        refine va_iald (D := (dC, dI)) hx hb hK hP 1 0 rfl rfl i_6 d_M_block_29 ?_
        refine lv_topi (fun x_7 ex_7 => ?_)
        obtain rfl : x_7 = 0 := ex_7
        refine lv_istore_n (lv' := [(3, .int 0), (0, .ref a_m), (1, .int p0), (2, .int p1)]) hx hb d_M_block_30 rfl hl (by decide) rfl (fun ls hl => ?_)
        refine lv_aload_n hx hb d_M_block_31 rfl (lv_at hl 1 rfl) ?_
        refine va_get (D := (dC, dI)) (ci := 5) (v := .ref a_mb) (C := "LoanRulesModel") (T := Fz_M) (N := 22) hx hb hts it_M hown hK hP 0 rfl rfl 13 (by decide) (hts _ tw_614) (fun _ h9 => h9) rfl d_M_block_32 ?_
        refine lv_iload_n hx hb d_M_block_35 rfl (lv_at hl 2 rfl) ?_
        refine lv_iload_n hx hb d_M_block_36 rfl (lv_at hl 3 rfl) ?_
        have i_8 : vp_in p0 50 := in_personM c_3
        refine va_iast (D := (dC, dI)) hx hb hK hP hD hS 1 0 rfl rfl i_8 d_M_block_37 (fun H locs hP hD hS => ?_)
        replace hP : va_P (dC, dI) vwCl [(a_m, .inr (5, [.int 0, .ref a_sa, .int 0, .int 0, .int 0, .ref a_mr, .ref a_me, .ref a_le, .int 0, .ref a_mc, .ref a_mt, .ref a_mk, .ref a_my, .ref a_mb, .ref a_mx, .ref a_ml, .int 0, .ref a_mh, .ref a_mf, .int 0, .ref a_mz, .int 0])), (a_mb, .inl (k_mb, 50, .inl (upd (fun _ => 0) p0.toNatClampNeg p1)))] H := hP
        replace hD : va_D A [(a_m, .inr (5, [.int 0, .ref a_sa, .int 0, .int 0, .int 0, .ref a_mr, .ref a_me, .ref a_le, .int 0, .ref a_mc, .ref a_mt, .ref a_mk, .ref a_my, .ref a_mb, .ref a_mx, .ref a_ml, .int 0, .ref a_mh, .ref a_mf, .int 0, .ref a_mz, .int 0])), (a_mb, .inl (k_mb, 50, .inl (upd (fun _ => 0) p0.toNatClampNeg p1)))] := hD
        refine lv_iload_n hx hb d_M_block_38 rfl (lv_at hl 0 rfl) ?_
        exact W.iret (v := 0) hx hb hr (fun t ht hW => ⟨⟨0, (), rfl, hE.symm.trans hz, trivial⟩, hS.F ht⟩) hS.2.2 d_M_block_39
      · rw [if_neg c_5] at hE
        refine lv_iconst (v := (-1)) hx hb d_M_block_22 (by decide) ?_
        exact W.iret (v := (-1)) hx hb hr (fun t ht hW => ⟨⟨(-1), (), rfl, hE.symm.trans hz, trivial⟩, hS.F ht⟩) hS.2.2 d_M_block_23
set_option maxHeartbeats 4000000 in
set_option maxRecDepth 100000 in
theorem c_Mo_isRule (l : Launch) (dC : Nat → ClassId) (dI : Nat → Nat → Nat) (adK adV : Nat → Nat) (a_m : Nat) (p0 : Int32) (a_sa : Nat) (a_mr : Nat) (a_me : Nat) (a_le : Nat) (a_mc : Nat) (a_mt : Nat) (a_mk : Nat) (a_my : Nat) (a_mb : Nat) (a_mx : Nat) (a_ml : Nat) (a_mh : Nat) (a_mf : Nat) (a_mz : Nat) : Met l y_M_isRule ws_M_isRule ({ frames := 0, cells := 0, slots := 0, locals := 0 }) (va_Pc [.ref a_m, .int p0] (fun U => zz adK adV (fun _ => False) U ∧ va_P (dC, dI) vwCl [(a_m, .inr (5, [.int 0, .ref a_sa, .int 0, .int 0, .int 0, .ref a_mr, .ref a_me, .ref a_le, .int 0, .ref a_mc, .ref a_mt, .ref a_mk, .ref a_my, .ref a_mb, .ref a_mx, .ref a_ml, .int 0, .ref a_mh, .ref a_mf, .int 0, .ref a_mz, .int 0]))] U.heap ∧ va_K (dC, dI) vwCl [] U)) (vp_Si (fun r => r = 0)) 0 0 (fun _ => False) := by
  refine Met.ofW (cc := c_M_isRule) (maxL := 2) (ret := (some .boolean)) (by decide) rfl ?_
  intro p e s m args below meth c s₁ B hml hv
  obtain ⟨rfl, hZ, hP, hK⟩ := hv
  have hx := B.exec
  have hb := B.bytes
  have hr := B.returns
  have hts0 := atoms_spec (ws := ws_M_isRule) B.pre
  have hts : ∀ w ∈ TT, w.before _ s = true := fun w h => hts0 w (List.mem_cons_of_mem _ h)
  have hown : s.vm.findClass "LoanRulesModel" = some m.cls := findClass_of_methodNamed B.named
  have hlocks := B.notSynchronized
  have hS : va_S (fun _ => False) s.heap s.heap [] := va_S.rf
  replace hP : va_P (dC, dI) vwCl [(a_m, .inr (5, [.int 0, .ref a_sa, .int 0, .int 0, .int 0, .ref a_mr, .ref a_me, .ref a_le, .int 0, .ref a_mc, .ref a_mt, .ref a_mk, .ref a_my, .ref a_mb, .ref a_mx, .ref a_ml, .int 0, .ref a_mh, .ref a_mf, .int 0, .ref a_mz, .int 0]))] s.heap := hP
  have hl := lv_entry ([.ref a_m, .int p0]) (n := 2) (Nat.le_of_ble_eq_true rfl)
  rw [lg_entry_eq]
  generalize (lg_sl ([.ref a_m, .int p0]) ++ List.replicate (2 - (lg_sl ([.ref a_m, .int p0])).length) Slot.unset).toArray = ls at hl ⊢
  replace hl : lv_has ls 2 [(0, .ref a_m), (1, .int p0)] := hl
  refine lv_iload_n hx hb d_M_isRule_0 rfl (lv_at hl 1 rfl) ?_
  refine lv_if_lt (tgt := 16) hx hb d_M_isRule_1 (by decide) (fun c_1 => ?_) (fun c_1 => ?_)
  · refine lv_iconst (v := 0) hx hb d_M_isRule_16 (by decide) ?_
    exact W.zret (v := 0) hx hb hr rfl (fun t ht hW => ⟨0, rfl, rfl, ht⟩) (fun _ h => by cases h) d_M_isRule_17
  · refine lv_iload_n hx hb d_M_isRule_4 rfl (lv_at hl 1 rfl) ?_
    refine lv_aload_n hx hb d_M_isRule_5 rfl (lv_at hl 0 rfl) ?_
    refine va_get (D := (dC, dI)) (ci := 5) (v := .int 0) (C := "LoanRulesModel") (T := Fz_M) (N := 22) hx hb hts it_M hown hK hP 0 rfl rfl 8 (by decide) (hts _ tw_609) (fun _ h9 => h9) rfl d_M_isRule_6 ?_
    refine lv_icmp_ge (tgt := 16) hx hb d_M_isRule_9 (by decide) (fun c_2 => ?_) (fun c_2 => ?_)
    · refine lv_iconst (v := 0) hx hb d_M_isRule_16 (by decide) ?_
      exact W.zret (v := 0) hx hb hr rfl (fun t ht hW => ⟨0, rfl, rfl, ht⟩) (fun _ h => by cases h) d_M_isRule_17
    · exact absurd (lk_no c_1) c_2
set_option maxHeartbeats 4000000 in
set_option maxRecDepth 100000 in
theorem c_Mo_except (l : Launch) (dC : Nat → ClassId) (dI : Nat → Nat → Nat) (adK adV : Nat → Nat) (a_m : Nat) (p0 : Int32) (p1 : Int32) (p2 : Int32) (a_sa : Nat) (a_mr : Nat) (a_me : Nat) (a_le : Nat) (a_mc : Nat) (a_mt : Nat) (a_mk : Nat) (a_my : Nat) (a_mb : Nat) (a_mx : Nat) (a_ml : Nat) (a_mh : Nat) (a_mf : Nat) (a_mz : Nat) (sz : Nat) : Met l y_M_except ws_M_except ({ frames := 1, cells := 0, slots := 0, locals := 21 }) (va_Pc [.ref a_m, .int p0, .int p1, .int p2] (fun U => U.heap.size = sz ∧ zz adK adV (va_A [(a_m, .inr (5, [.int 0, .ref a_sa, .int 0, .int 0, .int 0, .ref a_mr, .ref a_me, .ref a_le, .int 0, .ref a_mc, .ref a_mt, .ref a_mk, .ref a_my, .ref a_mb, .ref a_mx, .ref a_ml, .int 0, .ref a_mh, .ref a_mf, .int 0, .ref a_mz, .int 0]))] sz) U ∧ va_P (dC, dI) vwCl [(a_m, .inr (5, [.int 0, .ref a_sa, .int 0, .int 0, .int 0, .ref a_mr, .ref a_me, .ref a_le, .int 0, .ref a_mc, .ref a_mt, .ref a_mk, .ref a_my, .ref a_mb, .ref a_mx, .ref a_ml, .int 0, .ref a_mh, .ref a_mf, .int 0, .ref a_mz, .int 0]))] U.heap ∧ va_K (dC, dI) vwCl [] U ∧ va_D (fun _ => True) [(a_m, .inr (5, [.int 0, .ref a_sa, .int 0, .int 0, .int 0, .ref a_mr, .ref a_me, .ref a_le, .int 0, .ref a_mc, .ref a_mt, .ref a_mk, .ref a_my, .ref a_mb, .ref a_mx, .ref a_ml, .int 0, .ref a_mh, .ref a_mf, .int 0, .ref a_mz, .int 0]))])) (va_Qi (fun (r : Int32) (_ : Unit) => r = 0) (fun (_ : Unit) (_ : State) => True) (va_A [(a_m, .inr (5, [.int 0, .ref a_sa, .int 0, .int 0, .int 0, .ref a_mr, .ref a_me, .ref a_le, .int 0, .ref a_mc, .ref a_mt, .ref a_mk, .ref a_my, .ref a_mb, .ref a_mx, .ref a_ml, .int 0, .ref a_mh, .ref a_mf, .int 0, .ref a_mz, .int 0]))] sz)) 0 0 (va_A [(a_m, .inr (5, [.int 0, .ref a_sa, .int 0, .int 0, .int 0, .ref a_mr, .ref a_me, .ref a_le, .int 0, .ref a_mc, .ref a_mt, .ref a_mk, .ref a_my, .ref a_mb, .ref a_mx, .ref a_ml, .int 0, .ref a_mh, .ref a_mf, .int 0, .ref a_mz, .int 0]))] sz) := by
  refine Met.ofW (cc := c_M_except) (maxL := 4) (ret := (some .int)) (by decide) rfl ?_
  intro p e s m args below meth c s₁ B hml hv
  obtain ⟨rfl, hsz, hZ, hP, hK, hD0⟩ := hv
  have hx := B.exec
  have hb := B.bytes
  have hr := B.returns
  have hts0 := atoms_spec (ws := ws_M_except) B.pre
  have hts : ∀ w ∈ TT, w.before _ s = true := fun w h => hts0 w (List.mem_cons_of_mem _ h)
  have hown : s.vm.findClass "LoanRulesModel" = some m.cls := findClass_of_methodNamed B.named
  have hlocks := B.notSynchronized
  subst hsz
  have hD := hD0.self (sz := s.heap.size)
  generalize hAe : va_A [(a_m, .inr (5, [.int 0, .ref a_sa, .int 0, .int 0, .int 0, .ref a_mr, .ref a_me, .ref a_le, .int 0, .ref a_mc, .ref a_mt, .ref a_mk, .ref a_my, .ref a_mb, .ref a_mx, .ref a_ml, .int 0, .ref a_mh, .ref a_mf, .int 0, .ref a_mz, .int 0]))] s.heap.size = A at hD hZ ⊢
  have hA : ∀ q : Nat, s.heap.size ≤ q → A q := fun q h => by rw [← hAe]; exact Or.inr h
  clear hAe hD0
  have hS : va_S A s.heap s.heap [] := va_S.rf
  replace hP : va_P (dC, dI) vwCl [(a_m, .inr (5, [.int 0, .ref a_sa, .int 0, .int 0, .int 0, .ref a_mr, .ref a_me, .ref a_le, .int 0, .ref a_mc, .ref a_mt, .ref a_mk, .ref a_my, .ref a_mb, .ref a_mx, .ref a_ml, .int 0, .ref a_mh, .ref a_mf, .int 0, .ref a_mz, .int 0]))] s.heap := hP
  have hl := lv_entry ([.ref a_m, .int p0, .int p1, .int p2]) (n := 4) (Nat.le_of_ble_eq_true rfl)
  rw [lg_entry_eq]
  generalize (lg_sl ([.ref a_m, .int p0, .int p1, .int p2]) ++ List.replicate (4 - (lg_sl ([.ref a_m, .int p0, .int p1, .int p2])).length) Slot.unset).toArray = ls at hl ⊢
  replace hl : lv_has ls 4 [(0, .ref a_m), (1, .int p0), (2, .int p1), (3, .int p2)] := hl
  refine lv_aload_n hx hb d_M_except_0 rfl (lv_at hl 0 rfl) ?_
  refine lv_iconst (v := 0) hx hb d_M_except_1 (by decide) ?_
  refine va_put (D := (dC, dI)) (ci := 5) (v := .int 0) (ty := .int) (C := "LoanRulesModel") (T := Fz_M) (N := 22) hx hb hts it_M tz_M tz_M_ok nz_M hown hK hP hD hS 0 rfl rfl 0 (by decide) (hts _ tw_601) (fun _ h9 => h9) rfl (by decide +kernel) rfl rfl (Nat.le_of_ble_eq_true rfl) d_M_except_2 (fun H locs hP hD hS => ?_)
  replace hP : va_P (dC, dI) vwCl [(a_m, .inr (5, [.int 0, .ref a_sa, .int 0, .int 0, .int 0, .ref a_mr, .ref a_me, .ref a_le, .int 0, .ref a_mc, .ref a_mt, .ref a_mk, .ref a_my, .ref a_mb, .ref a_mx, .ref a_ml, .int 0, .ref a_mh, .ref a_mf, .int 0, .ref a_mz, .int 0]))] H := hP
  replace hD : va_D A [(a_m, .inr (5, [.int 0, .ref a_sa, .int 0, .int 0, .int 0, .ref a_mr, .ref a_me, .ref a_le, .int 0, .ref a_mc, .ref a_mt, .ref a_mk, .ref a_my, .ref a_mb, .ref a_mx, .ref a_ml, .int 0, .ref a_mh, .ref a_mf, .int 0, .ref a_mz, .int 0]))] := hD
  refine lv_iload_n hx hb d_M_except_5 rfl (lv_at hl 1 rfl) ?_
  have hPc := hP.sub (ws' := []) [] rfl
  have hKc := hK.sub (tys' := []) [] rfl
  refine vp_callSi (va_Run.run (va_runS (As := [.int p0]) (rest := []) ⟨hx, hb, hml, hown, hts⟩ (c_Mo_isPerson l dC dI adK adV (p0 := p0)) (va_cwS 1 hts (gS tw_751 tw_752 tw_46 tw_753) rfl rfl rfl (by decide +kernel) ⟨(Nat.le_of_ble_eq_true rfl), (Nat.le_of_ble_eq_true rfl)⟩) ⟨fun a U g mk q => by obtain ⟨q0, qZ, qP, qK⟩ := q; exact ⟨q0, zz_call qZ, qP, va_K.moved (u := U) (U := U.calling g mk a) (Vm.Alike.refl U.vm) qK⟩, fun U hU hW => ⟨rfl, zz_ro hS hU hW hZ, by rw [hU]; exact hPc, va_K.moved hW.alike hKc⟩⟩ rfl rfl hl.1 rfl (lv_room (Nat.le_of_ble_eq_true rfl)) d_M_except_6 ⟨(Nat.le_of_ble_eq_true rfl), (Nat.le_of_ble_eq_true rfl)⟩)) (fun r_1 hw_2 => ?_)
  subst hw_2
  refine lv_if_eq (tgt := 20) hx hb d_M_except_9 (by decide) (fun c_3 => ?_) (fun c_3 => ?_)
  · refine lv_iconst (v := 0) hx hb d_M_except_20 (by decide) ?_
    exact W.iret (v := 0) hx hb hr (fun t ht hW => ⟨⟨0, (), rfl, rfl, trivial⟩, hS.F ht⟩) hS.2.2 d_M_except_21
  · refine lv_aload_n hx hb d_M_except_12 rfl (lv_at hl 0 rfl) ?_
    refine lv_iload_n hx hb d_M_except_13 rfl (lv_at hl 2 rfl) ?_
    have hPc := hP.sub (ws' := [(a_m, .inr (5, [.int 0, .ref a_sa, .int 0, .int 0, .int 0, .ref a_mr, .ref a_me, .ref a_le, .int 0, .ref a_mc, .ref a_mt, .ref a_mk, .ref a_my, .ref a_mb, .ref a_mx, .ref a_ml, .int 0, .ref a_mh, .ref a_mf, .int 0, .ref a_mz, .int 0]))]) [0] rfl
    have hKc := hK.sub (tys' := []) [] rfl
    refine vp_callSi (va_Run.run (va_runV (As := [.int p1]) (rest := []) ⟨hx, hb, hml, hown, hts⟩ (c_Mo_isRule l dC dI adK adV (a_m := a_m) (p0 := p1) (a_sa := a_sa) (a_mr := a_mr) (a_me := a_me) (a_le := a_le) (a_mc := a_mc) (a_mt := a_mt) (a_mk := a_mk) (a_my := a_my) (a_mb := a_mb) (a_mx := a_mx) (a_ml := a_ml) (a_mh := a_mh) (a_mf := a_mf) (a_mz := a_mz)) (cwV 1 hts (gV tw_762 tw_764 tw_34 tw_46 tw_765) rfl rfl rfl (by decide +kernel) ⟨(Nat.le_of_ble_eq_true rfl), (Nat.le_of_ble_eq_true rfl)⟩) ⟨fun a U g mk q => by obtain ⟨q0, qZ, qP, qK⟩ := q; exact ⟨q0, zz_call qZ, qP, va_K.moved (u := U) (U := U.calling g mk a) (Vm.Alike.refl U.vm) qK⟩, va_recv hKc hPc (ci := 5) (q0 := 0) rfl rfl, fun U hU hW => ⟨rfl, zz_ro hS hU hW hZ, by rw [hU]; exact hPc, va_K.moved hW.alike hKc⟩⟩ rfl rfl hl.1 rfl (lv_room (Nat.le_of_ble_eq_true rfl)) d_M_except_14 ⟨(Nat.le_of_ble_eq_true rfl), (Nat.le_of_ble_eq_true rfl)⟩)) (fun r_4 hw_5 => ?_)
    obtain rfl : r_4 = 0 := hw_5
    refine lv_if_ne (tgt := 22) hx hb d_M_except_17 (by decide) (fun c_6 => ?_) (fun c_6 => ?_)
    · exact absurd (by decide) c_6
    · refine lv_iconst (v := 0) hx hb d_M_except_20 (by decide) ?_
      exact W.iret (v := 0) hx hb hr (fun t ht hW => ⟨⟨0, (), rfl, rfl, trivial⟩, hS.F ht⟩) hS.2.2 d_M_except_21
set_option maxHeartbeats 4000000 in
set_option maxRecDepth 100000 in
theorem c_Mo_throwsUp (l : Launch) (dC : Nat → ClassId) (dI : Nat → Nat → Nat) (adK adV : Nat → Nat) (a_m : Nat) (p0 : Int32) (p1 : Int32) (a_sa : Nat) (a_mr : Nat) (a_me : Nat) (a_le : Nat) (a_mc : Nat) (a_mt : Nat) (a_mk : Nat) (a_my : Nat) (a_mb : Nat) (a_mx : Nat) (a_ml : Nat) (a_mh : Nat) (a_mf : Nat) (a_mz : Nat) (sz : Nat) : Met l y_M_throwsUp ws_M_throwsUp ({ frames := 1, cells := 0, slots := 0, locals := 21 }) (va_Pc [.ref a_m, .int p0, .int p1] (fun U => U.heap.size = sz ∧ zz adK adV (va_A [(a_m, .inr (5, [.int 0, .ref a_sa, .int 0, .int 0, .int 0, .ref a_mr, .ref a_me, .ref a_le, .int 0, .ref a_mc, .ref a_mt, .ref a_mk, .ref a_my, .ref a_mb, .ref a_mx, .ref a_ml, .int 0, .ref a_mh, .ref a_mf, .int 0, .ref a_mz, .int 0]))] sz) U ∧ va_P (dC, dI) vwCl [(a_m, .inr (5, [.int 0, .ref a_sa, .int 0, .int 0, .int 0, .ref a_mr, .ref a_me, .ref a_le, .int 0, .ref a_mc, .ref a_mt, .ref a_mk, .ref a_my, .ref a_mb, .ref a_mx, .ref a_ml, .int 0, .ref a_mh, .ref a_mf, .int 0, .ref a_mz, .int 0]))] U.heap ∧ va_K (dC, dI) vwCl [] U ∧ va_D (fun _ => True) [(a_m, .inr (5, [.int 0, .ref a_sa, .int 0, .int 0, .int 0, .ref a_mr, .ref a_me, .ref a_le, .int 0, .ref a_mc, .ref a_mt, .ref a_mk, .ref a_my, .ref a_mb, .ref a_mx, .ref a_ml, .int 0, .ref a_mh, .ref a_mf, .int 0, .ref a_mz, .int 0]))])) (va_Qi (fun (r : Int32) (_ : Unit) => r = 0) (fun (_ : Unit) (_ : State) => True) (va_A [(a_m, .inr (5, [.int 0, .ref a_sa, .int 0, .int 0, .int 0, .ref a_mr, .ref a_me, .ref a_le, .int 0, .ref a_mc, .ref a_mt, .ref a_mk, .ref a_my, .ref a_mb, .ref a_mx, .ref a_ml, .int 0, .ref a_mh, .ref a_mf, .int 0, .ref a_mz, .int 0]))] sz)) 0 0 (va_A [(a_m, .inr (5, [.int 0, .ref a_sa, .int 0, .int 0, .int 0, .ref a_mr, .ref a_me, .ref a_le, .int 0, .ref a_mc, .ref a_mt, .ref a_mk, .ref a_my, .ref a_mb, .ref a_mx, .ref a_ml, .int 0, .ref a_mh, .ref a_mf, .int 0, .ref a_mz, .int 0]))] sz) := by
  refine Met.ofW (cc := c_M_throwsUp) (maxL := 4) (ret := (some .boolean)) (by decide) rfl ?_
  intro p e s m args below meth c s₁ B hml hv
  obtain ⟨rfl, hsz, hZ, hP, hK, hD0⟩ := hv
  have hx := B.exec
  have hb := B.bytes
  have hr := B.returns
  have hts0 := atoms_spec (ws := ws_M_throwsUp) B.pre
  have hts : ∀ w ∈ TT, w.before _ s = true := fun w h => hts0 w (List.mem_cons_of_mem _ h)
  have hown : s.vm.findClass "LoanRulesModel" = some m.cls := findClass_of_methodNamed B.named
  have hlocks := B.notSynchronized
  subst hsz
  have hD := hD0.self (sz := s.heap.size)
  generalize hAe : va_A [(a_m, .inr (5, [.int 0, .ref a_sa, .int 0, .int 0, .int 0, .ref a_mr, .ref a_me, .ref a_le, .int 0, .ref a_mc, .ref a_mt, .ref a_mk, .ref a_my, .ref a_mb, .ref a_mx, .ref a_ml, .int 0, .ref a_mh, .ref a_mf, .int 0, .ref a_mz, .int 0]))] s.heap.size = A at hD hZ ⊢
  have hA : ∀ q : Nat, s.heap.size ≤ q → A q := fun q h => by rw [← hAe]; exact Or.inr h
  clear hAe hD0
  have hS : va_S A s.heap s.heap [] := va_S.rf
  replace hP : va_P (dC, dI) vwCl [(a_m, .inr (5, [.int 0, .ref a_sa, .int 0, .int 0, .int 0, .ref a_mr, .ref a_me, .ref a_le, .int 0, .ref a_mc, .ref a_mt, .ref a_mk, .ref a_my, .ref a_mb, .ref a_mx, .ref a_ml, .int 0, .ref a_mh, .ref a_mf, .int 0, .ref a_mz, .int 0]))] s.heap := hP
  have hl := lv_entry ([.ref a_m, .int p0, .int p1]) (n := 4) (Nat.le_of_ble_eq_true rfl)
  rw [lg_entry_eq]
  generalize (lg_sl ([.ref a_m, .int p0, .int p1]) ++ List.replicate (4 - (lg_sl ([.ref a_m, .int p0, .int p1])).length) Slot.unset).toArray = ls at hl ⊢
  replace hl : lv_has ls 4 [(0, .ref a_m), (1, .int p0), (2, .int p1)] := hl
  refine lv_aload_n hx hb d_M_throwsUp_0 rfl (lv_at hl 0 rfl) ?_
  refine lv_iconst (v := 0) hx hb d_M_throwsUp_1 (by decide) ?_
  refine va_put (D := (dC, dI)) (ci := 5) (v := .int 0) (ty := .int) (C := "LoanRulesModel") (T := Fz_M) (N := 22) hx hb hts it_M tz_M tz_M_ok nz_M hown hK hP hD hS 0 rfl rfl 0 (by decide) (hts _ tw_601) (fun _ h9 => h9) rfl (by decide +kernel) rfl rfl (Nat.le_of_ble_eq_true rfl) d_M_throwsUp_2 (fun H locs hP hD hS => ?_)
  replace hP : va_P (dC, dI) vwCl [(a_m, .inr (5, [.int 0, .ref a_sa, .int 0, .int 0, .int 0, .ref a_mr, .ref a_me, .ref a_le, .int 0, .ref a_mc, .ref a_mt, .ref a_mk, .ref a_my, .ref a_mb, .ref a_mx, .ref a_ml, .int 0, .ref a_mh, .ref a_mf, .int 0, .ref a_mz, .int 0]))] H := hP
  replace hD : va_D A [(a_m, .inr (5, [.int 0, .ref a_sa, .int 0, .int 0, .int 0, .ref a_mr, .ref a_me, .ref a_le, .int 0, .ref a_mc, .ref a_mt, .ref a_mk, .ref a_my, .ref a_mb, .ref a_mx, .ref a_ml, .int 0, .ref a_mh, .ref a_mf, .int 0, .ref a_mz, .int 0]))] := hD
  refine lv_aload_n hx hb d_M_throwsUp_5 rfl (lv_at hl 0 rfl) ?_
  refine lv_iload_n hx hb d_M_throwsUp_6 rfl (lv_at hl 1 rfl) ?_
  have hPc := hP.sub (ws' := [(a_m, .inr (5, [.int 0, .ref a_sa, .int 0, .int 0, .int 0, .ref a_mr, .ref a_me, .ref a_le, .int 0, .ref a_mc, .ref a_mt, .ref a_mk, .ref a_my, .ref a_mb, .ref a_mx, .ref a_ml, .int 0, .ref a_mh, .ref a_mf, .int 0, .ref a_mz, .int 0]))]) [0] rfl
  have hKc := hK.sub (tys' := []) [] rfl
  refine vp_callSi (va_Run.run (va_runV (As := [.int p0]) (rest := []) ⟨hx, hb, hml, hown, hts⟩ (c_Mo_isRule l dC dI adK adV (a_m := a_m) (p0 := p0) (a_sa := a_sa) (a_mr := a_mr) (a_me := a_me) (a_le := a_le) (a_mc := a_mc) (a_mt := a_mt) (a_mk := a_mk) (a_my := a_my) (a_mb := a_mb) (a_mx := a_mx) (a_ml := a_ml) (a_mh := a_mh) (a_mf := a_mf) (a_mz := a_mz)) (cwV 1 hts (gV tw_762 tw_764 tw_34 tw_46 tw_765) rfl rfl rfl (by decide +kernel) ⟨(Nat.le_of_ble_eq_true rfl), (Nat.le_of_ble_eq_true rfl)⟩) ⟨fun a U g mk q => by obtain ⟨q0, qZ, qP, qK⟩ := q; exact ⟨q0, zz_call qZ, qP, va_K.moved (u := U) (U := U.calling g mk a) (Vm.Alike.refl U.vm) qK⟩, va_recv hKc hPc (ci := 5) (q0 := 0) rfl rfl, fun U hU hW => ⟨rfl, zz_ro hS hU hW hZ, by rw [hU]; exact hPc, va_K.moved hW.alike hKc⟩⟩ rfl rfl hl.1 rfl (lv_room (Nat.le_of_ble_eq_true rfl)) d_M_throwsUp_7 ⟨(Nat.le_of_ble_eq_true rfl), (Nat.le_of_ble_eq_true rfl)⟩)) (fun r_1 hw_2 => ?_)
  obtain rfl : r_1 = 0 := hw_2
  refine lv_if_ne (tgt := 15) hx hb d_M_throwsUp_10 (by decide) (fun c_3 => ?_) (fun c_3 => ?_)
  · exact absurd (by decide) c_3
  · refine lv_iconst (v := 0) hx hb d_M_throwsUp_13 (by decide) ?_
    exact W.zret (v := 0) hx hb hr rfl (fun t ht hW => ⟨⟨0, (), rfl, rfl, trivial⟩, hS.F ht⟩) hS.2.2 d_M_throwsUp_14
set_option maxHeartbeats 4000000 in
set_option maxRecDepth 100000 in
theorem c_Mo_find (l : Launch) (dC : Nat → ClassId) (dI : Nat → Nat → Nat) (adK adV : Nat → Nat) (a_m : Nat) (p0 : Int32) (p1 : Int32) (p2 : Int32) (a_sa : Nat) (a_mr : Nat) (a_me : Nat) (a_le : Nat) (a_mc : Nat) (a_mt : Nat) (a_mk : Nat) (a_my : Nat) (a_mb : Nat) (a_mx : Nat) (a_ml : Nat) (a_mh : Nat) (a_mf : Nat) (a_mz : Nat) (sz : Nat) : Met l y_M_find ws_M_find ({ frames := 0, cells := 0, slots := 0, locals := 0 }) (va_Pc [.ref a_m, .int p0, .int p1, .int p2] (fun U => U.heap.size = sz ∧ zz adK adV (va_A [(a_m, .inr (5, [.int 0, .ref a_sa, .int 0, .int 0, .int 0, .ref a_mr, .ref a_me, .ref a_le, .int 0, .ref a_mc, .ref a_mt, .ref a_mk, .ref a_my, .ref a_mb, .ref a_mx, .ref a_ml, .int 0, .ref a_mh, .ref a_mf, .int 0, .ref a_mz, .int 0]))] sz) U ∧ va_P (dC, dI) vwCl [(a_m, .inr (5, [.int 0, .ref a_sa, .int 0, .int 0, .int 0, .ref a_mr, .ref a_me, .ref a_le, .int 0, .ref a_mc, .ref a_mt, .ref a_mk, .ref a_my, .ref a_mb, .ref a_mx, .ref a_ml, .int 0, .ref a_mh, .ref a_mf, .int 0, .ref a_mz, .int 0]))] U.heap ∧ va_K (dC, dI) vwCl [] U ∧ va_D (fun _ => True) [(a_m, .inr (5, [.int 0, .ref a_sa, .int 0, .int 0, .int 0, .ref a_mr, .ref a_me, .ref a_le, .int 0, .ref a_mc, .ref a_mt, .ref a_mk, .ref a_my, .ref a_mb, .ref a_mx, .ref a_ml, .int 0, .ref a_mh, .ref a_mf, .int 0, .ref a_mz, .int 0]))])) (va_Qv (fun _ : Unit => True) (fun (_ : Unit) (t : State) => va_P (dC, dI) vwCl [(a_m, .inr (5, [.int 0, .ref a_sa, .int 0, .int 0, .int 0, .ref a_mr, .ref a_me, .ref a_le, .int 0, .ref a_mc, .ref a_mt, .ref a_mk, .ref a_my, .ref a_mb, .ref a_mx, .ref a_ml, .int 0, .ref a_mh, .ref a_mf, .int 0, .ref a_mz, .int 0]))] t.heap ∧ va_K (dC, dI) vwCl [] t ∧ va_D (va_A [(a_m, .inr (5, [.int 0, .ref a_sa, .int 0, .int 0, .int 0, .ref a_mr, .ref a_me, .ref a_le, .int 0, .ref a_mc, .ref a_mt, .ref a_mk, .ref a_my, .ref a_mb, .ref a_mx, .ref a_ml, .int 0, .ref a_mh, .ref a_mf, .int 0, .ref a_mz, .int 0]))] sz) [(a_m, .inr (5, [.int 0, .ref a_sa, .int 0, .int 0, .int 0, .ref a_mr, .ref a_me, .ref a_le, .int 0, .ref a_mc, .ref a_mt, .ref a_mk, .ref a_my, .ref a_mb, .ref a_mx, .ref a_ml, .int 0, .ref a_mh, .ref a_mf, .int 0, .ref a_mz, .int 0]))]) (va_A [(a_m, .inr (5, [.int 0, .ref a_sa, .int 0, .int 0, .int 0, .ref a_mr, .ref a_me, .ref a_le, .int 0, .ref a_mc, .ref a_mt, .ref a_mk, .ref a_my, .ref a_mb, .ref a_mx, .ref a_ml, .int 0, .ref a_mh, .ref a_mf, .int 0, .ref a_mz, .int 0]))] sz)) 0 0 (va_A [(a_m, .inr (5, [.int 0, .ref a_sa, .int 0, .int 0, .int 0, .ref a_mr, .ref a_me, .ref a_le, .int 0, .ref a_mc, .ref a_mt, .ref a_mk, .ref a_my, .ref a_mb, .ref a_mx, .ref a_ml, .int 0, .ref a_mh, .ref a_mf, .int 0, .ref a_mz, .int 0]))] sz) := by
  refine Met.ofW (cc := c_M_find) (maxL := 6) (ret := none) (by decide) rfl ?_
  intro p e s m args below meth c s₁ B hml hv
  obtain ⟨rfl, hsz, hZ, hP, hK, hD0⟩ := hv
  have hx := B.exec
  have hb := B.bytes
  have hr := B.returns
  have hts0 := atoms_spec (ws := ws_M_find) B.pre
  have hts : ∀ w ∈ TT, w.before _ s = true := fun w h => hts0 w (List.mem_cons_of_mem _ h)
  have hown : s.vm.findClass "LoanRulesModel" = some m.cls := findClass_of_methodNamed B.named
  have hlocks := B.notSynchronized
  subst hsz
  have hD := hD0.self (sz := s.heap.size)
  generalize hAe : va_A [(a_m, .inr (5, [.int 0, .ref a_sa, .int 0, .int 0, .int 0, .ref a_mr, .ref a_me, .ref a_le, .int 0, .ref a_mc, .ref a_mt, .ref a_mk, .ref a_my, .ref a_mb, .ref a_mx, .ref a_ml, .int 0, .ref a_mh, .ref a_mf, .int 0, .ref a_mz, .int 0]))] s.heap.size = A at hD hZ ⊢
  have hA : ∀ q : Nat, s.heap.size ≤ q → A q := fun q h => by rw [← hAe]; exact Or.inr h
  clear hAe hD0
  have hS : va_S A s.heap s.heap [] := va_S.rf
  replace hP : va_P (dC, dI) vwCl [(a_m, .inr (5, [.int 0, .ref a_sa, .int 0, .int 0, .int 0, .ref a_mr, .ref a_me, .ref a_le, .int 0, .ref a_mc, .ref a_mt, .ref a_mk, .ref a_my, .ref a_mb, .ref a_mx, .ref a_ml, .int 0, .ref a_mh, .ref a_mf, .int 0, .ref a_mz, .int 0]))] s.heap := hP
  have hl := lv_entry ([.ref a_m, .int p0, .int p1, .int p2]) (n := 6) (Nat.le_of_ble_eq_true rfl)
  rw [lg_entry_eq]
  generalize (lg_sl ([.ref a_m, .int p0, .int p1, .int p2]) ++ List.replicate (6 - (lg_sl ([.ref a_m, .int p0, .int p1, .int p2])).length) Slot.unset).toArray = ls at hl ⊢
  replace hl : lv_has ls 6 [(0, .ref a_m), (1, .int p0), (2, .int p1), (3, .int p2)] := hl
  refine lv_aload_n hx hb d_M_find_0 rfl (lv_at hl 0 rfl) ?_
  refine lv_iconst (v := 0) hx hb d_M_find_1 (by decide) ?_
  refine va_put (D := (dC, dI)) (ci := 5) (v := .int 0) (ty := .int) (C := "LoanRulesModel") (T := Fz_M) (N := 22) hx hb hts it_M tz_M tz_M_ok nz_M hown hK hP hD hS 0 rfl rfl 19 (by decide) (hts _ tw_620) (fun _ h9 => h9) rfl (by decide +kernel) rfl rfl (Nat.le_of_ble_eq_true rfl) d_M_find_2 (fun H locs hP hD hS => ?_)
  replace hP : va_P (dC, dI) vwCl [(a_m, .inr (5, [.int 0, .ref a_sa, .int 0, .int 0, .int 0, .ref a_mr, .ref a_me, .ref a_le, .int 0, .ref a_mc, .ref a_mt, .ref a_mk, .ref a_my, .ref a_mb, .ref a_mx, .ref a_ml, .int 0, .ref a_mh, .ref a_mf, .int 0, .ref a_mz, .int 0]))] H := hP
  replace hD : va_D A [(a_m, .inr (5, [.int 0, .ref a_sa, .int 0, .int 0, .int 0, .ref a_mr, .ref a_me, .ref a_le, .int 0, .ref a_mc, .ref a_mt, .ref a_mk, .ref a_my, .ref a_mb, .ref a_mx, .ref a_ml, .int 0, .ref a_mh, .ref a_mf, .int 0, .ref a_mz, .int 0]))] := hD
  refine lv_iconst (v := 0) hx hb d_M_find_5 (by decide) ?_
  refine lv_istore (lv' := [(4, .int 0), (0, .ref a_m), (1, .int p0), (2, .int p1), (3, .int p2)]) hx hb d_M_find_6 hl (by decide) rfl (fun ls hl => ?_)
  refine lv_iload hx hb d_M_find_8 (lv_at hl 0 rfl) ?_
  refine lv_aload_n hx hb d_M_find_10 rfl (lv_at hl 1 rfl) ?_
  refine va_get (D := (dC, dI)) (ci := 5) (v := .int 0) (C := "LoanRulesModel") (T := Fz_M) (N := 22) hx hb hts it_M hown hK hP 0 rfl rfl 8 (by decide) (hts _ tw_609) (fun _ h9 => h9) rfl d_M_find_11 ?_
  refine lv_icmp_ge (tgt := 123) hx hb d_M_find_14 (by decide) (fun c_1 => ?_) (fun c_1 => ?_)
  · have hP9 := hP.sub (ws' := [(a_m, .inr (5, [.int 0, .ref a_sa, .int 0, .int 0, .int 0, .ref a_mr, .ref a_me, .ref a_le, .int 0, .ref a_mc, .ref a_mt, .ref a_mk, .ref a_my, .ref a_mb, .ref a_mx, .ref a_ml, .int 0, .ref a_mh, .ref a_mf, .int 0, .ref a_mz, .int 0]))]) [0] rfl
    have hD9 := hD.sub (ws' := [(a_m, .inr (5, [.int 0, .ref a_sa, .int 0, .int 0, .int 0, .ref a_mr, .ref a_me, .ref a_le, .int 0, .ref a_mc, .ref a_mt, .ref a_mk, .ref a_my, .ref a_mb, .ref a_mx, .ref a_ml, .int 0, .ref a_mh, .ref a_mf, .int 0, .ref a_mz, .int 0]))]) [0] (by decide) rfl
    have hK9 := hK.sub (tys' := []) [] rfl
    exact W.vret hx hb hr (fun t ht hW => ⟨⟨(), rfl, trivial, by rw [ht]; exact hP9, va_K.moved hW.alike hK9, hD9⟩, hS.F ht⟩) hS.2.2 d_M_find_123
  · exact absurd (by decide) c_1
def g_Mo_lend (p0 : Int32) (p1 : Int32) (p2 : Int32) : Int32 :=
  if (g_Mo_isPerson p0) = 0 then
    0
  else
    if (g_Mo_isPerson p1) = 0 then
      0
    else
      if (g_Mo_isDay p2) = 0 then
        0
      else
        (-100)
set_option maxHeartbeats 4000000 in
set_option maxRecDepth 100000 in
theorem c_Mo_lend (l : Launch) (dC : Nat → ClassId) (dI : Nat → Nat → Nat) (adK adV : Nat → Nat) (a_m : Nat) (a_mh : Nat) (a_mb : Nat) (k_mh : ClassId) (k_mb : ClassId) (p0 : Int32) (p1 : Int32) (p2 : Int32) (a_sa : Nat) (a_mr : Nat) (a_me : Nat) (a_le : Nat) (a_mc : Nat) (a_mt : Nat) (a_mk : Nat) (a_my : Nat) (a_mx : Nat) (a_ml : Nat) (a_mf : Nat) (a_mz : Nat) (sz : Nat) : Met l y_M_lend ws_M_lend ({ frames := 1, cells := 0, slots := 0, locals := 25 }) (va_Pc [.ref a_m, .int p0, .int p1, .int p2] (fun U => U.heap.size = sz ∧ zz adK adV (va_A [(a_m, .inr (5, [.int 0, .ref a_sa, .int 0, .int 0, .int 0, .ref a_mr, .ref a_me, .ref a_le, .int 0, .ref a_mc, .ref a_mt, .ref a_mk, .ref a_my, .ref a_mb, .ref a_mx, .ref a_ml, .int 0, .ref a_mh, .ref a_mf, .int 0, .ref a_mz, .int 0])), (a_mh, .inl (k_mh, 50, .inl (fun _ => 0))), (a_mb, .inl (k_mb, 50, .inl (fun _ => 0)))] sz) U ∧ va_P (dC, dI) vwCl [(a_m, .inr (5, [.int 0, .ref a_sa, .int 0, .int 0, .int 0, .ref a_mr, .ref a_me, .ref a_le, .int 0, .ref a_mc, .ref a_mt, .ref a_mk, .ref a_my, .ref a_mb, .ref a_mx, .ref a_ml, .int 0, .ref a_mh, .ref a_mf, .int 0, .ref a_mz, .int 0])), (a_mh, .inl (k_mh, 50, .inl (fun _ => 0))), (a_mb, .inl (k_mb, 50, .inl (fun _ => 0)))] U.heap ∧ va_K (dC, dI) vwCl [(k_mh, .int), (k_mb, .int)] U ∧ va_D (fun _ => True) [(a_m, .inr (5, [.int 0, .ref a_sa, .int 0, .int 0, .int 0, .ref a_mr, .ref a_me, .ref a_le, .int 0, .ref a_mc, .ref a_mt, .ref a_mk, .ref a_my, .ref a_mb, .ref a_mx, .ref a_ml, .int 0, .ref a_mh, .ref a_mf, .int 0, .ref a_mz, .int 0])), (a_mh, .inl (k_mh, 50, .inl (fun _ => 0))), (a_mb, .inl (k_mb, 50, .inl (fun _ => 0)))])) (va_Qi (fun (r : Int32) (_ : Unit) => r = g_Mo_lend p0 p1 p2) (fun (_ : Unit) (t : State) => va_P (dC, dI) vwCl [(a_m, .inr (5, [.int 0, .ref a_sa, .int 0, .int 0, .int 0, .ref a_mr, .ref a_me, .ref a_le, .int 0, .ref a_mc, .ref a_mt, .ref a_mk, .ref a_my, .ref a_mb, .ref a_mx, .ref a_ml, .int 0, .ref a_mh, .ref a_mf, .int 0, .ref a_mz, .int 0]))] t.heap ∧ va_K (dC, dI) vwCl [] t ∧ va_D (va_A [(a_m, .inr (5, [.int 0, .ref a_sa, .int 0, .int 0, .int 0, .ref a_mr, .ref a_me, .ref a_le, .int 0, .ref a_mc, .ref a_mt, .ref a_mk, .ref a_my, .ref a_mb, .ref a_mx, .ref a_ml, .int 0, .ref a_mh, .ref a_mf, .int 0, .ref a_mz, .int 0])), (a_mh, .inl (k_mh, 50, .inl (fun _ => 0))), (a_mb, .inl (k_mb, 50, .inl (fun _ => 0)))] sz) [(a_m, .inr (5, [.int 0, .ref a_sa, .int 0, .int 0, .int 0, .ref a_mr, .ref a_me, .ref a_le, .int 0, .ref a_mc, .ref a_mt, .ref a_mk, .ref a_my, .ref a_mb, .ref a_mx, .ref a_ml, .int 0, .ref a_mh, .ref a_mf, .int 0, .ref a_mz, .int 0]))]) (va_A [(a_m, .inr (5, [.int 0, .ref a_sa, .int 0, .int 0, .int 0, .ref a_mr, .ref a_me, .ref a_le, .int 0, .ref a_mc, .ref a_mt, .ref a_mk, .ref a_my, .ref a_mb, .ref a_mx, .ref a_ml, .int 0, .ref a_mh, .ref a_mf, .int 0, .ref a_mz, .int 0])), (a_mh, .inl (k_mh, 50, .inl (fun _ => 0))), (a_mb, .inl (k_mb, 50, .inl (fun _ => 0)))] sz)) 0 0 (va_A [(a_m, .inr (5, [.int 0, .ref a_sa, .int 0, .int 0, .int 0, .ref a_mr, .ref a_me, .ref a_le, .int 0, .ref a_mc, .ref a_mt, .ref a_mk, .ref a_my, .ref a_mb, .ref a_mx, .ref a_ml, .int 0, .ref a_mh, .ref a_mf, .int 0, .ref a_mz, .int 0])), (a_mh, .inl (k_mh, 50, .inl (fun _ => 0))), (a_mb, .inl (k_mb, 50, .inl (fun _ => 0)))] sz) := by
  refine Met.ofW (cc := c_M_lend) (maxL := 8) (ret := (some .int)) (by decide) rfl ?_
  intro p e s m args below meth c s₁ B hml hv
  obtain ⟨rfl, hsz, hZ, hP, hK, hD0⟩ := hv
  have hx := B.exec
  have hb := B.bytes
  have hr := B.returns
  have hts0 := atoms_spec (ws := ws_M_lend) B.pre
  have hts : ∀ w ∈ TT, w.before _ s = true := fun w h => hts0 w (List.mem_cons_of_mem _ h)
  have hown : s.vm.findClass "LoanRulesModel" = some m.cls := findClass_of_methodNamed B.named
  have hlocks := B.notSynchronized
  subst hsz
  have hD := hD0.self (sz := s.heap.size)
  generalize hAe : va_A [(a_m, .inr (5, [.int 0, .ref a_sa, .int 0, .int 0, .int 0, .ref a_mr, .ref a_me, .ref a_le, .int 0, .ref a_mc, .ref a_mt, .ref a_mk, .ref a_my, .ref a_mb, .ref a_mx, .ref a_ml, .int 0, .ref a_mh, .ref a_mf, .int 0, .ref a_mz, .int 0])), (a_mh, .inl (k_mh, 50, .inl (fun _ => 0))), (a_mb, .inl (k_mb, 50, .inl (fun _ => 0)))] s.heap.size = A at hD hZ ⊢
  have hA : ∀ q : Nat, s.heap.size ≤ q → A q := fun q h => by rw [← hAe]; exact Or.inr h
  clear hAe hD0
  have hS : va_S A s.heap s.heap [] := va_S.rf
  replace hP : va_P (dC, dI) vwCl [(a_m, .inr (5, [.int 0, .ref a_sa, .int 0, .int 0, .int 0, .ref a_mr, .ref a_me, .ref a_le, .int 0, .ref a_mc, .ref a_mt, .ref a_mk, .ref a_my, .ref a_mb, .ref a_mx, .ref a_ml, .int 0, .ref a_mh, .ref a_mf, .int 0, .ref a_mz, .int 0])), (a_mh, .inl (k_mh, 50, .inl (fun _ => 0))), (a_mb, .inl (k_mb, 50, .inl (fun _ => 0)))] s.heap := hP
  have hl := lv_entry ([.ref a_m, .int p0, .int p1, .int p2]) (n := 8) (Nat.le_of_ble_eq_true rfl)
  rw [lg_entry_eq]
  generalize (lg_sl ([.ref a_m, .int p0, .int p1, .int p2]) ++ List.replicate (8 - (lg_sl ([.ref a_m, .int p0, .int p1, .int p2])).length) Slot.unset).toArray = ls at hl ⊢
  replace hl : lv_has ls 8 [(0, .ref a_m), (1, .int p0), (2, .int p1), (3, .int p2)] := hl
  obtain ⟨z, hz⟩ : ∃ z, z = g_Mo_lend p0 p1 p2 := ⟨_, rfl⟩
  have hE := hz
  rw [g_Mo_lend] at hE
  refine lv_aload_n hx hb d_M_lend_0 rfl (lv_at hl 0 rfl) ?_
  refine lv_iconst (v := 0) hx hb d_M_lend_1 (by decide) ?_
  refine va_put (D := (dC, dI)) (ci := 5) (v := .int 0) (ty := .int) (C := "LoanRulesModel") (T := Fz_M) (N := 22) hx hb hts it_M tz_M tz_M_ok nz_M hown hK hP hD hS 0 rfl rfl 0 (by decide) (hts _ tw_601) (fun _ h9 => h9) rfl (by decide +kernel) rfl rfl (Nat.le_of_ble_eq_true rfl) d_M_lend_2 (fun H locs hP hD hS => ?_)
  replace hP : va_P (dC, dI) vwCl [(a_m, .inr (5, [.int 0, .ref a_sa, .int 0, .int 0, .int 0, .ref a_mr, .ref a_me, .ref a_le, .int 0, .ref a_mc, .ref a_mt, .ref a_mk, .ref a_my, .ref a_mb, .ref a_mx, .ref a_ml, .int 0, .ref a_mh, .ref a_mf, .int 0, .ref a_mz, .int 0])), (a_mh, .inl (k_mh, 50, .inl (fun _ => 0))), (a_mb, .inl (k_mb, 50, .inl (fun _ => 0)))] H := hP
  replace hD : va_D A [(a_m, .inr (5, [.int 0, .ref a_sa, .int 0, .int 0, .int 0, .ref a_mr, .ref a_me, .ref a_le, .int 0, .ref a_mc, .ref a_mt, .ref a_mk, .ref a_my, .ref a_mb, .ref a_mx, .ref a_ml, .int 0, .ref a_mh, .ref a_mf, .int 0, .ref a_mz, .int 0])), (a_mh, .inl (k_mh, 50, .inl (fun _ => 0))), (a_mb, .inl (k_mb, 50, .inl (fun _ => 0)))] := hD
  refine lv_iload_n hx hb d_M_lend_5 rfl (lv_at hl 1 rfl) ?_
  have hPc := hP.sub (ws' := []) [] rfl
  have hKc := hK.sub (tys' := []) [] rfl
  refine vp_callSi (va_Run.run (va_runS (As := [.int p0]) (rest := []) ⟨hx, hb, hml, hown, hts⟩ (c_Mo_isPerson l dC dI adK adV (p0 := p0)) (va_cwS 1 hts (gS tw_751 tw_752 tw_46 tw_753) rfl rfl rfl (by decide +kernel) ⟨(Nat.le_of_ble_eq_true rfl), (Nat.le_of_ble_eq_true rfl)⟩) ⟨fun a U g mk q => by obtain ⟨q0, qZ, qP, qK⟩ := q; exact ⟨q0, zz_call qZ, qP, va_K.moved (u := U) (U := U.calling g mk a) (Vm.Alike.refl U.vm) qK⟩, fun U hU hW => ⟨rfl, zz_ro hS hU hW hZ, by rw [hU]; exact hPc, va_K.moved hW.alike hKc⟩⟩ rfl rfl hl.1 rfl (lv_room (Nat.le_of_ble_eq_true rfl)) d_M_lend_6 ⟨(Nat.le_of_ble_eq_true rfl), (Nat.le_of_ble_eq_true rfl)⟩)) (fun r_1 hw_2 => ?_)
  subst hw_2
  refine lv_if_eq (tgt := 45) hx hb d_M_lend_9 (by decide) (fun c_3 => ?_) (fun c_3 => ?_)
  · rw [if_pos c_3] at hE
    refine lv_iconst (v := 0) hx hb d_M_lend_45 (by decide) ?_
    have hP9 := hP.sub (ws' := [(a_m, .inr (5, [.int 0, .ref a_sa, .int 0, .int 0, .int 0, .ref a_mr, .ref a_me, .ref a_le, .int 0, .ref a_mc, .ref a_mt, .ref a_mk, .ref a_my, .ref a_mb, .ref a_mx, .ref a_ml, .int 0, .ref a_mh, .ref a_mf, .int 0, .ref a_mz, .int 0]))]) [0] rfl
    have hD9 := hD.sub (ws' := [(a_m, .inr (5, [.int 0, .ref a_sa, .int 0, .int 0, .int 0, .ref a_mr, .ref a_me, .ref a_le, .int 0, .ref a_mc, .ref a_mt, .ref a_mk, .ref a_my, .ref a_mb, .ref a_mx, .ref a_ml, .int 0, .ref a_mh, .ref a_mf, .int 0, .ref a_mz, .int 0]))]) [0] (by decide) rfl
    have hK9 := hK.sub (tys' := []) [] rfl
    exact W.iret (v := 0) hx hb hr (fun t ht hW => ⟨⟨0, (), rfl, hE.symm.trans hz, by rw [ht]; exact hP9, va_K.moved hW.alike hK9, hD9⟩, hS.F ht⟩) hS.2.2 d_M_lend_46
  · rw [if_neg c_3] at hE
    refine lv_iload_n hx hb d_M_lend_12 rfl (lv_at hl 2 rfl) ?_
    have hPc := hP.sub (ws' := []) [] rfl
    have hKc := hK.sub (tys' := []) [] rfl
    refine vp_callSi (va_Run.run (va_runS (As := [.int p1]) (rest := []) ⟨hx, hb, hml, hown, hts⟩ (c_Mo_isPerson l dC dI adK adV (p0 := p1)) (va_cwS 1 hts (gS tw_751 tw_752 tw_46 tw_753) rfl rfl rfl (by decide +kernel) ⟨(Nat.le_of_ble_eq_true rfl), (Nat.le_of_ble_eq_true rfl)⟩) ⟨fun a U g mk q => by obtain ⟨q0, qZ, qP, qK⟩ := q; exact ⟨q0, zz_call qZ, qP, va_K.moved (u := U) (U := U.calling g mk a) (Vm.Alike.refl U.vm) qK⟩, fun U hU hW => ⟨rfl, zz_ro hS hU hW hZ, by rw [hU]; exact hPc, va_K.moved hW.alike hKc⟩⟩ rfl rfl hl.1 rfl (lv_room (Nat.le_of_ble_eq_true rfl)) d_M_lend_13 ⟨(Nat.le_of_ble_eq_true rfl), (Nat.le_of_ble_eq_true rfl)⟩)) (fun r_4 hw_5 => ?_)
    subst hw_5
    refine lv_if_eq (tgt := 45) hx hb d_M_lend_16 (by decide) (fun c_6 => ?_) (fun c_6 => ?_)
    · rw [if_pos c_6] at hE
      refine lv_iconst (v := 0) hx hb d_M_lend_45 (by decide) ?_
      have hP9 := hP.sub (ws' := [(a_m, .inr (5, [.int 0, .ref a_sa, .int 0, .int 0, .int 0, .ref a_mr, .ref a_me, .ref a_le, .int 0, .ref a_mc, .ref a_mt, .ref a_mk, .ref a_my, .ref a_mb, .ref a_mx, .ref a_ml, .int 0, .ref a_mh, .ref a_mf, .int 0, .ref a_mz, .int 0]))]) [0] rfl
      have hD9 := hD.sub (ws' := [(a_m, .inr (5, [.int 0, .ref a_sa, .int 0, .int 0, .int 0, .ref a_mr, .ref a_me, .ref a_le, .int 0, .ref a_mc, .ref a_mt, .ref a_mk, .ref a_my, .ref a_mb, .ref a_mx, .ref a_ml, .int 0, .ref a_mh, .ref a_mf, .int 0, .ref a_mz, .int 0]))]) [0] (by decide) rfl
      have hK9 := hK.sub (tys' := []) [] rfl
      exact W.iret (v := 0) hx hb hr (fun t ht hW => ⟨⟨0, (), rfl, hE.symm.trans hz, by rw [ht]; exact hP9, va_K.moved hW.alike hK9, hD9⟩, hS.F ht⟩) hS.2.2 d_M_lend_46
    · rw [if_neg c_6] at hE
      refine lv_iload_n hx hb d_M_lend_19 rfl (lv_at hl 3 rfl) ?_
      have hPc := hP.sub (ws' := []) [] rfl
      have hKc := hK.sub (tys' := []) [] rfl
      refine vp_callSi (va_Run.run (va_runS (As := [.int p2]) (rest := []) ⟨hx, hb, hml, hown, hts⟩ (c_Mo_isDay l dC dI adK adV (p0 := p2)) (va_cwS 1 hts (gS tw_740 tw_741 tw_46 tw_742) rfl rfl rfl (by decide +kernel) ⟨(Nat.le_of_ble_eq_true rfl), (Nat.le_of_ble_eq_true rfl)⟩) ⟨fun a U g mk q => by obtain ⟨q0, qZ, qP, qK⟩ := q; exact ⟨q0, zz_call qZ, qP, va_K.moved (u := U) (U := U.calling g mk a) (Vm.Alike.refl U.vm) qK⟩, fun U hU hW => ⟨rfl, zz_ro hS hU hW hZ, by rw [hU]; exact hPc, va_K.moved hW.alike hKc⟩⟩ rfl rfl hl.1 rfl (lv_room (Nat.le_of_ble_eq_true rfl)) d_M_lend_20 ⟨(Nat.le_of_ble_eq_true rfl), (Nat.le_of_ble_eq_true rfl)⟩)) (fun r_7 hw_8 => ?_)
      subst hw_8
      refine lv_if_eq (tgt := 45) hx hb d_M_lend_23 (by decide) (fun c_9 => ?_) (fun c_9 => ?_)
      · rw [if_pos c_9] at hE
        refine lv_iconst (v := 0) hx hb d_M_lend_45 (by decide) ?_
        have hP9 := hP.sub (ws' := [(a_m, .inr (5, [.int 0, .ref a_sa, .int 0, .int 0, .int 0, .ref a_mr, .ref a_me, .ref a_le, .int 0, .ref a_mc, .ref a_mt, .ref a_mk, .ref a_my, .ref a_mb, .ref a_mx, .ref a_ml, .int 0, .ref a_mh, .ref a_mf, .int 0, .ref a_mz, .int 0]))]) [0] rfl
        have hD9 := hD.sub (ws' := [(a_m, .inr (5, [.int 0, .ref a_sa, .int 0, .int 0, .int 0, .ref a_mr, .ref a_me, .ref a_le, .int 0, .ref a_mc, .ref a_mt, .ref a_mk, .ref a_my, .ref a_mb, .ref a_mx, .ref a_ml, .int 0, .ref a_mh, .ref a_mf, .int 0, .ref a_mz, .int 0]))]) [0] (by decide) rfl
        have hK9 := hK.sub (tys' := []) [] rfl
        exact W.iret (v := 0) hx hb hr (fun t ht hW => ⟨⟨0, (), rfl, hE.symm.trans hz, by rw [ht]; exact hP9, va_K.moved hW.alike hK9, hD9⟩, hS.F ht⟩) hS.2.2 d_M_lend_46
      · rw [if_neg c_9] at hE
        refine lv_aload_n hx hb d_M_lend_26 rfl (lv_at hl 0 rfl) ?_
        refine va_get (D := (dC, dI)) (ci := 5) (v := .ref a_mh) (C := "LoanRulesModel") (T := Fz_M) (N := 22) hx hb hts it_M hown hK hP 0 rfl rfl 17 (by decide) (hts _ tw_618) (fun _ h9 => h9) rfl d_M_lend_27 ?_
        refine lv_iload_n hx hb d_M_lend_30 rfl (lv_at hl 2 rfl) ?_
        have i_10 : vp_in p1 50 := in_personM c_6
        refine va_iald (D := (dC, dI)) hx hb hK hP 1 0 rfl rfl i_10 d_M_lend_31 ?_
        refine lv_topi (fun x_11 ex_11 => ?_)
        obtain rfl : x_11 = 0 := ex_11
        refine lv_if_ne (tgt := 45) hx hb d_M_lend_32 (by decide) (fun c_12 => ?_) (fun c_12 => ?_)
        · exact absurd (by decide) c_12
        · refine lv_aload_n hx hb d_M_lend_35 rfl (lv_at hl 0 rfl) ?_
          refine va_get (D := (dC, dI)) (ci := 5) (v := .int 0) (C := "LoanRulesModel") (T := Fz_M) (N := 22) hx hb hts it_M hown hK hP 0 rfl rfl 16 (by decide) (hts _ tw_617) (fun _ h9 => h9) rfl d_M_lend_36 ?_
          refine lv_sipush (v := 200) hx hb d_M_lend_39 (by decide) ?_
          refine lv_icmp_ne (tgt := 47) hx hb d_M_lend_42 (by decide) (fun c_13 => ?_) (fun c_13 => ?_)
          · refine lv_aload_n hx hb d_M_lend_47 rfl (lv_at hl 0 rfl) ?_
            refine va_get (D := (dC, dI)) (ci := 5) (v := .ref a_mb) (C := "LoanRulesModel") (T := Fz_M) (N := 22) hx hb hts it_M hown hK hP 0 rfl rfl 13 (by decide) (hts _ tw_614) (fun _ h9 => h9) rfl d_M_lend_48 ?_
            refine lv_iload_n hx hb d_M_lend_51 rfl (lv_at hl 1 rfl) ?_
            have i_14 : vp_in p0 50 := in_personM c_3
            refine va_iald (D := (dC, dI)) hx hb hK hP 2 1 rfl rfl i_14 d_M_lend_52 ?_
            refine lv_topi (fun x_15 ex_15 => ?_)
            obtain rfl : x_15 = 0 := ex_15
            refine lv_if_le (tgt := 66) hx hb d_M_lend_53 (by decide) (fun c_16 => ?_) (fun c_16 => ?_)
            · refine lv_aload_n hx hb d_M_lend_66 rfl (lv_at hl 0 rfl) ?_
              refine lv_iload_n hx hb d_M_lend_67 rfl (lv_at hl 1 rfl) ?_
              refine lv_iload_n hx hb d_M_lend_68 rfl (lv_at hl 2 rfl) ?_
              refine lv_iload_n hx hb d_M_lend_69 rfl (lv_at hl 3 rfl) ?_
              have hPc := hP.sub (ws' := [(a_m, .inr (5, [.int 0, .ref a_sa, .int 0, .int 0, .int 0, .ref a_mr, .ref a_me, .ref a_le, .int 0, .ref a_mc, .ref a_mt, .ref a_mk, .ref a_my, .ref a_mb, .ref a_mx, .ref a_ml, .int 0, .ref a_mh, .ref a_mf, .int 0, .ref a_mz, .int 0]))]) [0] rfl
              have hKc := hK.sub (tys' := []) [] rfl
              have hDc := hD.sub (ws' := [(a_m, .inr (5, [.int 0, .ref a_sa, .int 0, .int 0, .int 0, .ref a_mr, .ref a_me, .ref a_le, .int 0, .ref a_mc, .ref a_mt, .ref a_mk, .ref a_my, .ref a_mb, .ref a_mx, .ref a_ml, .int 0, .ref a_mh, .ref a_mf, .int 0, .ref a_mz, .int 0]))]) [0] (by decide) rfl
              have hFc := va_free (wc := [(a_m, .inr (5, [.int 0, .ref a_sa, .int 0, .int 0, .int 0, .ref a_mr, .ref a_me, .ref a_le, .int 0, .ref a_mc, .ref a_mt, .ref a_mk, .ref a_my, .ref a_mb, .ref a_mx, .ref a_ml, .int 0, .ref a_mh, .ref a_mf, .int 0, .ref a_mz, .int 0]))]) hD hS hA [0] rfl
              refine va_callv (va_runV (As := [.int p0, .int p1, .int p2]) (rest := []) ⟨hx, hb, hml, hown, hts⟩ (c_Mo_find l dC dI adK adV (a_m := a_m) (p0 := p0) (p1 := p1) (p2 := p2) (a_sa := a_sa) (a_mr := a_mr) (a_me := a_me) (a_le := a_le) (a_mc := a_mc) (a_mt := a_mt) (a_mk := a_mk) (a_my := a_my) (a_mb := a_mb) (a_mx := a_mx) (a_ml := a_ml) (a_mh := a_mh) (a_mf := a_mf) (a_mz := a_mz) (sz := H.size)) (cwV 3 hts (gV tw_774 tw_776 tw_35 tw_46 tw_777) rfl rfl rfl (by decide +kernel) ⟨(Nat.le_of_ble_eq_true rfl), (Nat.le_of_ble_eq_true rfl)⟩) ⟨fun a U g mk q => by obtain ⟨q0, q1, qZ, qP, qK, qD⟩ := q; exact ⟨q0, q1, zz_call qZ, qP, va_K.moved (u := U) (U := U.calling g mk a) (Vm.Alike.refl U.vm) qK, qD⟩, va_recv hKc hPc (ci := 5) (q0 := 0) rfl rfl, fun U hU hW => ⟨rfl, by rw [hU], zz_rw hS hFc hU hW hZ, by rw [hU]; exact hPc, va_K.moved hW.alike hKc, hDc.weaken (fun _ _ _ _ => trivial)⟩⟩ rfl rfl hl.1 rfl (lv_room (Nat.le_of_ble_eq_true rfl)) d_M_lend_70 ⟨(Nat.le_of_ble_eq_true rfl), (Nat.le_of_ble_eq_true rfl)⟩) hS (fun q _ h => hFc q h) hFc (fun u t H1 locs ht hvm hw_17 hB hz1 hk1 hS => ?_)
              obtain ⟨hP1, hK1, hD1⟩ := hB
              rw [ht] at hP1
              have hK1 := va_K.moved hvm.symm hK1
              obtain ⟨hP, hD⟩ := va_join (wr := [(a_mh, .inl (k_mh, 50, .inl (fun _ => 0))), (a_mb, .inl (k_mb, 50, .inl (fun _ => 0)))]) (w1 := [(a_m, .inr (5, [.int 0, .ref a_sa, .int 0, .int 0, .int 0, .ref a_mr, .ref a_me, .ref a_le, .int 0, .ref a_mc, .ref a_mt, .ref a_mk, .ref a_my, .ref a_mb, .ref a_mx, .ref a_ml, .int 0, .ref a_mh, .ref a_mf, .int 0, .ref a_mz, .int 0]))]) hP hD [0] [1, 2] rfl rfl (by decide) (by decide) hk1 hFc hP1 hD1
              have hK := (hK.sub (tys' := [(k_mh, .int), (k_mb, .int)]) [0, 1] rfl).app hK1
              generalize H1 = H at hP hS ⊢
              replace hP : va_P (dC, dI) vwCl [(a_mh, .inl (k_mh, 50, .inl (fun _ => 0))), (a_mb, .inl (k_mb, 50, .inl (fun _ => 0))), (a_m, .inr (5, [.int 0, .ref a_sa, .int 0, .int 0, .int 0, .ref a_mr, .ref a_me, .ref a_le, .int 0, .ref a_mc, .ref a_mt, .ref a_mk, .ref a_my, .ref a_mb, .ref a_mx, .ref a_ml, .int 0, .ref a_mh, .ref a_mf, .int 0, .ref a_mz, .int 0]))] H := hP
              replace hD : va_D A [(a_mh, .inl (k_mh, 50, .inl (fun _ => 0))), (a_mb, .inl (k_mb, 50, .inl (fun _ => 0))), (a_m, .inr (5, [.int 0, .ref a_sa, .int 0, .int 0, .int 0, .ref a_mr, .ref a_me, .ref a_le, .int 0, .ref a_mc, .ref a_mt, .ref a_mk, .ref a_my, .ref a_mb, .ref a_mx, .ref a_ml, .int 0, .ref a_mh, .ref a_mf, .int 0, .ref a_mz, .int 0]))] := hD
              replace hK : va_K (dC, dI) vwCl [(k_mh, .int), (k_mb, .int)] s := hK
              refine lv_aload_n hx hb d_M_lend_73 rfl (lv_at hl 0 rfl) ?_
              refine va_get (D := (dC, dI)) (ci := 5) (v := .int 0) (C := "LoanRulesModel") (T := Fz_M) (N := 22) hx hb hts it_M hown hK hP 2 rfl rfl 19 (by decide) (hts _ tw_620) (fun _ h9 => h9) rfl d_M_lend_74 ?_
              refine lv_if_ne (tgt := 83) hx hb d_M_lend_77 (by decide) (fun c_18 => ?_) (fun c_18 => ?_)
              · exact absurd (by decide) c_18
              · refine lv_bipush (v := (-100)) hx hb d_M_lend_80 (by decide) ?_
                have hP9 := hP.sub (ws' := [(a_m, .inr (5, [.int 0, .ref a_sa, .int 0, .int 0, .int 0, .ref a_mr, .ref a_me, .ref a_le, .int 0, .ref a_mc, .ref a_mt, .ref a_mk, .ref a_my, .ref a_mb, .ref a_mx, .ref a_ml, .int 0, .ref a_mh, .ref a_mf, .int 0, .ref a_mz, .int 0]))]) [2] rfl
                have hD9 := hD.sub (ws' := [(a_m, .inr (5, [.int 0, .ref a_sa, .int 0, .int 0, .int 0, .ref a_mr, .ref a_me, .ref a_le, .int 0, .ref a_mc, .ref a_mt, .ref a_mk, .ref a_my, .ref a_mb, .ref a_mx, .ref a_ml, .int 0, .ref a_mh, .ref a_mf, .int 0, .ref a_mz, .int 0]))]) [2] (by decide) rfl
                have hK9 := hK.sub (tys' := []) [] rfl
                exact W.iret (v := (-100)) hx hb hr (fun t ht hW => ⟨⟨(-100), (), rfl, hE.symm.trans hz, by rw [ht]; exact hP9, va_K.moved hW.alike hK9, hD9⟩, hS.F ht⟩) hS.2.2 d_M_lend_82
            · exact absurd (by decide) c_16
          · exact absurd c_13 (by decide)
set_option maxHeartbeats 4000000 in
set_option maxRecDepth 100000 in
theorem c_Mo_isOut (l : Launch) (dC : Nat → ClassId) (dI : Nat → Nat → Nat) (adK adV : Nat → Nat) (a_m : Nat) (p0 : Int32) (a_sa : Nat) (a_mr : Nat) (a_me : Nat) (a_le : Nat) (a_mc : Nat) (a_mt : Nat) (a_mk : Nat) (a_my : Nat) (a_mb : Nat) (a_mx : Nat) (a_ml : Nat) (a_mh : Nat) (a_mf : Nat) (a_mz : Nat) : Met l y_M_isOut ws_M_isOut ({ frames := 0, cells := 0, slots := 0, locals := 0 }) (va_Pc [.ref a_m, .int p0] (fun U => zz adK adV (fun _ => False) U ∧ va_P (dC, dI) vwCl [(a_m, .inr (5, [.int 0, .ref a_sa, .int 0, .int 0, .int 0, .ref a_mr, .ref a_me, .ref a_le, .int 0, .ref a_mc, .ref a_mt, .ref a_mk, .ref a_my, .ref a_mb, .ref a_mx, .ref a_ml, .int 0, .ref a_mh, .ref a_mf, .int 0, .ref a_mz, .int 0]))] U.heap ∧ va_K (dC, dI) vwCl [] U)) (vp_Si (fun r => r = 0)) 0 0 (fun _ => False) := by
  refine Met.ofW (cc := c_M_isOut) (maxL := 2) (ret := (some .boolean)) (by decide) rfl ?_
  intro p e s m args below meth c s₁ B hml hv
  obtain ⟨rfl, hZ, hP, hK⟩ := hv
  have hx := B.exec
  have hb := B.bytes
  have hr := B.returns
  have hts0 := atoms_spec (ws := ws_M_isOut) B.pre
  have hts : ∀ w ∈ TT, w.before _ s = true := fun w h => hts0 w (List.mem_cons_of_mem _ h)
  have hown : s.vm.findClass "LoanRulesModel" = some m.cls := findClass_of_methodNamed B.named
  have hlocks := B.notSynchronized
  have hS : va_S (fun _ => False) s.heap s.heap [] := va_S.rf
  replace hP : va_P (dC, dI) vwCl [(a_m, .inr (5, [.int 0, .ref a_sa, .int 0, .int 0, .int 0, .ref a_mr, .ref a_me, .ref a_le, .int 0, .ref a_mc, .ref a_mt, .ref a_mk, .ref a_my, .ref a_mb, .ref a_mx, .ref a_ml, .int 0, .ref a_mh, .ref a_mf, .int 0, .ref a_mz, .int 0]))] s.heap := hP
  have hl := lv_entry ([.ref a_m, .int p0]) (n := 2) (Nat.le_of_ble_eq_true rfl)
  rw [lg_entry_eq]
  generalize (lg_sl ([.ref a_m, .int p0]) ++ List.replicate (2 - (lg_sl ([.ref a_m, .int p0])).length) Slot.unset).toArray = ls at hl ⊢
  replace hl : lv_has ls 2 [(0, .ref a_m), (1, .int p0)] := hl
  refine lv_iload_n hx hb d_M_isOut_0 rfl (lv_at hl 1 rfl) ?_
  refine lv_if_le (tgt := 31) hx hb d_M_isOut_1 (by decide) (fun c_1 => ?_) (fun c_1 => ?_)
  · refine lv_iconst (v := 0) hx hb d_M_isOut_31 (by decide) ?_
    exact W.zret (v := 0) hx hb hr rfl (fun t ht hW => ⟨0, rfl, rfl, ht⟩) (fun _ h => by cases h) d_M_isOut_32
  · refine lv_iload_n hx hb d_M_isOut_4 rfl (lv_at hl 1 rfl) ?_
    refine lv_aload_n hx hb d_M_isOut_5 rfl (lv_at hl 0 rfl) ?_
    refine va_get (D := (dC, dI)) (ci := 5) (v := .int 0) (C := "LoanRulesModel") (T := Fz_M) (N := 22) hx hb hts it_M hown hK hP 0 rfl rfl 16 (by decide) (hts _ tw_617) (fun _ h9 => h9) rfl d_M_isOut_6 ?_
    refine lv_icmp_gt (tgt := 31) hx hb d_M_isOut_9 (by decide) (fun c_2 => ?_) (fun c_2 => ?_)
    · refine lv_iconst (v := 0) hx hb d_M_isOut_31 (by decide) ?_
      exact W.zret (v := 0) hx hb hr rfl (fun t ht hW => ⟨0, rfl, rfl, ht⟩) (fun _ h => by cases h) d_M_isOut_32
    · exact absurd (Int32.not_le.mp c_1) c_2
set_option maxHeartbeats 4000000 in
set_option maxRecDepth 100000 in
theorem c_Mo_due (l : Launch) (dC : Nat → ClassId) (dI : Nat → Nat → Nat) (adK adV : Nat → Nat) (a_m : Nat) (p0 : Int32) (a_sa : Nat) (a_mr : Nat) (a_me : Nat) (a_le : Nat) (a_mc : Nat) (a_mt : Nat) (a_mk : Nat) (a_my : Nat) (a_mb : Nat) (a_mx : Nat) (a_ml : Nat) (a_mh : Nat) (a_mf : Nat) (a_mz : Nat) (sz : Nat) : Met l y_M_due ws_M_due ({ frames := 1, cells := 0, slots := 0, locals := 21 }) (va_Pc [.ref a_m, .int p0] (fun U => U.heap.size = sz ∧ zz adK adV (va_A [(a_m, .inr (5, [.int 0, .ref a_sa, .int 0, .int 0, .int 0, .ref a_mr, .ref a_me, .ref a_le, .int 0, .ref a_mc, .ref a_mt, .ref a_mk, .ref a_my, .ref a_mb, .ref a_mx, .ref a_ml, .int 0, .ref a_mh, .ref a_mf, .int 0, .ref a_mz, .int 0]))] sz) U ∧ va_P (dC, dI) vwCl [(a_m, .inr (5, [.int 0, .ref a_sa, .int 0, .int 0, .int 0, .ref a_mr, .ref a_me, .ref a_le, .int 0, .ref a_mc, .ref a_mt, .ref a_mk, .ref a_my, .ref a_mb, .ref a_mx, .ref a_ml, .int 0, .ref a_mh, .ref a_mf, .int 0, .ref a_mz, .int 0]))] U.heap ∧ va_K (dC, dI) vwCl [] U ∧ va_D (fun _ => True) [(a_m, .inr (5, [.int 0, .ref a_sa, .int 0, .int 0, .int 0, .ref a_mr, .ref a_me, .ref a_le, .int 0, .ref a_mc, .ref a_mt, .ref a_mk, .ref a_my, .ref a_mb, .ref a_mx, .ref a_ml, .int 0, .ref a_mh, .ref a_mf, .int 0, .ref a_mz, .int 0]))])) (va_Qi (fun (r : Int32) (_ : Unit) => r = (-1)) (fun (_ : Unit) (_ : State) => True) (va_A [(a_m, .inr (5, [.int 0, .ref a_sa, .int 0, .int 0, .int 0, .ref a_mr, .ref a_me, .ref a_le, .int 0, .ref a_mc, .ref a_mt, .ref a_mk, .ref a_my, .ref a_mb, .ref a_mx, .ref a_ml, .int 0, .ref a_mh, .ref a_mf, .int 0, .ref a_mz, .int 0]))] sz)) 0 0 (va_A [(a_m, .inr (5, [.int 0, .ref a_sa, .int 0, .int 0, .int 0, .ref a_mr, .ref a_me, .ref a_le, .int 0, .ref a_mc, .ref a_mt, .ref a_mk, .ref a_my, .ref a_mb, .ref a_mx, .ref a_ml, .int 0, .ref a_mh, .ref a_mf, .int 0, .ref a_mz, .int 0]))] sz) := by
  refine Met.ofW (cc := c_M_due) (maxL := 2) (ret := (some .int)) (by decide) rfl ?_
  intro p e s m args below meth c s₁ B hml hv
  obtain ⟨rfl, hsz, hZ, hP, hK, hD0⟩ := hv
  have hx := B.exec
  have hb := B.bytes
  have hr := B.returns
  have hts0 := atoms_spec (ws := ws_M_due) B.pre
  have hts : ∀ w ∈ TT, w.before _ s = true := fun w h => hts0 w (List.mem_cons_of_mem _ h)
  have hown : s.vm.findClass "LoanRulesModel" = some m.cls := findClass_of_methodNamed B.named
  have hlocks := B.notSynchronized
  subst hsz
  have hD := hD0.self (sz := s.heap.size)
  generalize hAe : va_A [(a_m, .inr (5, [.int 0, .ref a_sa, .int 0, .int 0, .int 0, .ref a_mr, .ref a_me, .ref a_le, .int 0, .ref a_mc, .ref a_mt, .ref a_mk, .ref a_my, .ref a_mb, .ref a_mx, .ref a_ml, .int 0, .ref a_mh, .ref a_mf, .int 0, .ref a_mz, .int 0]))] s.heap.size = A at hD hZ ⊢
  have hA : ∀ q : Nat, s.heap.size ≤ q → A q := fun q h => by rw [← hAe]; exact Or.inr h
  clear hAe hD0
  have hS : va_S A s.heap s.heap [] := va_S.rf
  replace hP : va_P (dC, dI) vwCl [(a_m, .inr (5, [.int 0, .ref a_sa, .int 0, .int 0, .int 0, .ref a_mr, .ref a_me, .ref a_le, .int 0, .ref a_mc, .ref a_mt, .ref a_mk, .ref a_my, .ref a_mb, .ref a_mx, .ref a_ml, .int 0, .ref a_mh, .ref a_mf, .int 0, .ref a_mz, .int 0]))] s.heap := hP
  have hl := lv_entry ([.ref a_m, .int p0]) (n := 2) (Nat.le_of_ble_eq_true rfl)
  rw [lg_entry_eq]
  generalize (lg_sl ([.ref a_m, .int p0]) ++ List.replicate (2 - (lg_sl ([.ref a_m, .int p0])).length) Slot.unset).toArray = ls at hl ⊢
  replace hl : lv_has ls 2 [(0, .ref a_m), (1, .int p0)] := hl
  refine lv_aload_n hx hb d_M_due_0 rfl (lv_at hl 0 rfl) ?_
  refine lv_iconst (v := 0) hx hb d_M_due_1 (by decide) ?_
  refine va_put (D := (dC, dI)) (ci := 5) (v := .int 0) (ty := .int) (C := "LoanRulesModel") (T := Fz_M) (N := 22) hx hb hts it_M tz_M tz_M_ok nz_M hown hK hP hD hS 0 rfl rfl 0 (by decide) (hts _ tw_601) (fun _ h9 => h9) rfl (by decide +kernel) rfl rfl (Nat.le_of_ble_eq_true rfl) d_M_due_2 (fun H locs hP hD hS => ?_)
  replace hP : va_P (dC, dI) vwCl [(a_m, .inr (5, [.int 0, .ref a_sa, .int 0, .int 0, .int 0, .ref a_mr, .ref a_me, .ref a_le, .int 0, .ref a_mc, .ref a_mt, .ref a_mk, .ref a_my, .ref a_mb, .ref a_mx, .ref a_ml, .int 0, .ref a_mh, .ref a_mf, .int 0, .ref a_mz, .int 0]))] H := hP
  replace hD : va_D A [(a_m, .inr (5, [.int 0, .ref a_sa, .int 0, .int 0, .int 0, .ref a_mr, .ref a_me, .ref a_le, .int 0, .ref a_mc, .ref a_mt, .ref a_mk, .ref a_my, .ref a_mb, .ref a_mx, .ref a_ml, .int 0, .ref a_mh, .ref a_mf, .int 0, .ref a_mz, .int 0]))] := hD
  refine lv_aload_n hx hb d_M_due_5 rfl (lv_at hl 0 rfl) ?_
  refine lv_iload_n hx hb d_M_due_6 rfl (lv_at hl 1 rfl) ?_
  have hPc := hP.sub (ws' := [(a_m, .inr (5, [.int 0, .ref a_sa, .int 0, .int 0, .int 0, .ref a_mr, .ref a_me, .ref a_le, .int 0, .ref a_mc, .ref a_mt, .ref a_mk, .ref a_my, .ref a_mb, .ref a_mx, .ref a_ml, .int 0, .ref a_mh, .ref a_mf, .int 0, .ref a_mz, .int 0]))]) [0] rfl
  have hKc := hK.sub (tys' := []) [] rfl
  refine vp_callSi (va_Run.run (va_runV (As := [.int p0]) (rest := []) ⟨hx, hb, hml, hown, hts⟩ (c_Mo_isOut l dC dI adK adV (a_m := a_m) (p0 := p0) (a_sa := a_sa) (a_mr := a_mr) (a_me := a_me) (a_le := a_le) (a_mc := a_mc) (a_mt := a_mt) (a_mk := a_mk) (a_my := a_my) (a_mb := a_mb) (a_mx := a_mx) (a_ml := a_ml) (a_mh := a_mh) (a_mf := a_mf) (a_mz := a_mz)) (cwV 1 hts (gV tw_798 tw_800 tw_40 tw_46 tw_801) rfl rfl rfl (by decide +kernel) ⟨(Nat.le_of_ble_eq_true rfl), (Nat.le_of_ble_eq_true rfl)⟩) ⟨fun a U g mk q => by obtain ⟨q0, qZ, qP, qK⟩ := q; exact ⟨q0, zz_call qZ, qP, va_K.moved (u := U) (U := U.calling g mk a) (Vm.Alike.refl U.vm) qK⟩, va_recv hKc hPc (ci := 5) (q0 := 0) rfl rfl, fun U hU hW => ⟨rfl, zz_ro hS hU hW hZ, by rw [hU]; exact hPc, va_K.moved hW.alike hKc⟩⟩ rfl rfl hl.1 rfl (lv_room (Nat.le_of_ble_eq_true rfl)) d_M_due_7 ⟨(Nat.le_of_ble_eq_true rfl), (Nat.le_of_ble_eq_true rfl)⟩)) (fun r_1 hw_2 => ?_)
  obtain rfl : r_1 = 0 := hw_2
  refine lv_if_eq (tgt := 27) hx hb d_M_due_10 (by decide) (fun c_3 => ?_) (fun c_3 => ?_)
  · refine lv_iconst (v := (-1)) hx hb d_M_due_27 (by decide) ?_
    exact W.iret (v := (-1)) hx hb hr (fun t ht hW => ⟨⟨(-1), (), rfl, rfl, trivial⟩, hS.F ht⟩) hS.2.2 d_M_due_28
  · exact absurd (by decide) c_3
set_option maxHeartbeats 4000000 in
set_option maxRecDepth 100000 in
theorem c_Mo_renew (l : Launch) (dC : Nat → ClassId) (dI : Nat → Nat → Nat) (adK adV : Nat → Nat) (a_m : Nat) (p0 : Int32) (p1 : Int32) (a_sa : Nat) (a_mr : Nat) (a_me : Nat) (a_le : Nat) (a_mc : Nat) (a_mt : Nat) (a_mk : Nat) (a_my : Nat) (a_mb : Nat) (a_mx : Nat) (a_ml : Nat) (a_mh : Nat) (a_mf : Nat) (a_mz : Nat) (sz : Nat) : Met l y_M_renew ws_M_renew ({ frames := 1, cells := 0, slots := 0, locals := 21 }) (va_Pc [.ref a_m, .int p0, .int p1] (fun U => U.heap.size = sz ∧ zz adK adV (va_A [(a_m, .inr (5, [.int 0, .ref a_sa, .int 0, .int 0, .int 0, .ref a_mr, .ref a_me, .ref a_le, .int 0, .ref a_mc, .ref a_mt, .ref a_mk, .ref a_my, .ref a_mb, .ref a_mx, .ref a_ml, .int 0, .ref a_mh, .ref a_mf, .int 0, .ref a_mz, .int 0]))] sz) U ∧ va_P (dC, dI) vwCl [(a_m, .inr (5, [.int 0, .ref a_sa, .int 0, .int 0, .int 0, .ref a_mr, .ref a_me, .ref a_le, .int 0, .ref a_mc, .ref a_mt, .ref a_mk, .ref a_my, .ref a_mb, .ref a_mx, .ref a_ml, .int 0, .ref a_mh, .ref a_mf, .int 0, .ref a_mz, .int 0]))] U.heap ∧ va_K (dC, dI) vwCl [] U ∧ va_D (fun _ => True) [(a_m, .inr (5, [.int 0, .ref a_sa, .int 0, .int 0, .int 0, .ref a_mr, .ref a_me, .ref a_le, .int 0, .ref a_mc, .ref a_mt, .ref a_mk, .ref a_my, .ref a_mb, .ref a_mx, .ref a_ml, .int 0, .ref a_mh, .ref a_mf, .int 0, .ref a_mz, .int 0]))])) (va_Qi (fun (r : Int32) (_ : Unit) => r = 0) (fun (_ : Unit) (_ : State) => True) (va_A [(a_m, .inr (5, [.int 0, .ref a_sa, .int 0, .int 0, .int 0, .ref a_mr, .ref a_me, .ref a_le, .int 0, .ref a_mc, .ref a_mt, .ref a_mk, .ref a_my, .ref a_mb, .ref a_mx, .ref a_ml, .int 0, .ref a_mh, .ref a_mf, .int 0, .ref a_mz, .int 0]))] sz)) 0 0 (va_A [(a_m, .inr (5, [.int 0, .ref a_sa, .int 0, .int 0, .int 0, .ref a_mr, .ref a_me, .ref a_le, .int 0, .ref a_mc, .ref a_mt, .ref a_mk, .ref a_my, .ref a_mb, .ref a_mx, .ref a_ml, .int 0, .ref a_mh, .ref a_mf, .int 0, .ref a_mz, .int 0]))] sz) := by
  refine Met.ofW (cc := c_M_renew) (maxL := 7) (ret := (some .int)) (by decide) rfl ?_
  intro p e s m args below meth c s₁ B hml hv
  obtain ⟨rfl, hsz, hZ, hP, hK, hD0⟩ := hv
  have hx := B.exec
  have hb := B.bytes
  have hr := B.returns
  have hts0 := atoms_spec (ws := ws_M_renew) B.pre
  have hts : ∀ w ∈ TT, w.before _ s = true := fun w h => hts0 w (List.mem_cons_of_mem _ h)
  have hown : s.vm.findClass "LoanRulesModel" = some m.cls := findClass_of_methodNamed B.named
  have hlocks := B.notSynchronized
  subst hsz
  have hD := hD0.self (sz := s.heap.size)
  generalize hAe : va_A [(a_m, .inr (5, [.int 0, .ref a_sa, .int 0, .int 0, .int 0, .ref a_mr, .ref a_me, .ref a_le, .int 0, .ref a_mc, .ref a_mt, .ref a_mk, .ref a_my, .ref a_mb, .ref a_mx, .ref a_ml, .int 0, .ref a_mh, .ref a_mf, .int 0, .ref a_mz, .int 0]))] s.heap.size = A at hD hZ ⊢
  have hA : ∀ q : Nat, s.heap.size ≤ q → A q := fun q h => by rw [← hAe]; exact Or.inr h
  clear hAe hD0
  have hS : va_S A s.heap s.heap [] := va_S.rf
  replace hP : va_P (dC, dI) vwCl [(a_m, .inr (5, [.int 0, .ref a_sa, .int 0, .int 0, .int 0, .ref a_mr, .ref a_me, .ref a_le, .int 0, .ref a_mc, .ref a_mt, .ref a_mk, .ref a_my, .ref a_mb, .ref a_mx, .ref a_ml, .int 0, .ref a_mh, .ref a_mf, .int 0, .ref a_mz, .int 0]))] s.heap := hP
  have hl := lv_entry ([.ref a_m, .int p0, .int p1]) (n := 7) (Nat.le_of_ble_eq_true rfl)
  rw [lg_entry_eq]
  generalize (lg_sl ([.ref a_m, .int p0, .int p1]) ++ List.replicate (7 - (lg_sl ([.ref a_m, .int p0, .int p1])).length) Slot.unset).toArray = ls at hl ⊢
  replace hl : lv_has ls 7 [(0, .ref a_m), (1, .int p0), (2, .int p1)] := hl
  refine lv_aload_n hx hb d_M_renew_0 rfl (lv_at hl 0 rfl) ?_
  refine lv_iconst (v := 0) hx hb d_M_renew_1 (by decide) ?_
  refine va_put (D := (dC, dI)) (ci := 5) (v := .int 0) (ty := .int) (C := "LoanRulesModel") (T := Fz_M) (N := 22) hx hb hts it_M tz_M tz_M_ok nz_M hown hK hP hD hS 0 rfl rfl 0 (by decide) (hts _ tw_601) (fun _ h9 => h9) rfl (by decide +kernel) rfl rfl (Nat.le_of_ble_eq_true rfl) d_M_renew_2 (fun H locs hP hD hS => ?_)
  replace hP : va_P (dC, dI) vwCl [(a_m, .inr (5, [.int 0, .ref a_sa, .int 0, .int 0, .int 0, .ref a_mr, .ref a_me, .ref a_le, .int 0, .ref a_mc, .ref a_mt, .ref a_mk, .ref a_my, .ref a_mb, .ref a_mx, .ref a_ml, .int 0, .ref a_mh, .ref a_mf, .int 0, .ref a_mz, .int 0]))] H := hP
  replace hD : va_D A [(a_m, .inr (5, [.int 0, .ref a_sa, .int 0, .int 0, .int 0, .ref a_mr, .ref a_me, .ref a_le, .int 0, .ref a_mc, .ref a_mt, .ref a_mk, .ref a_my, .ref a_mb, .ref a_mx, .ref a_ml, .int 0, .ref a_mh, .ref a_mf, .int 0, .ref a_mz, .int 0]))] := hD
  refine lv_aload_n hx hb d_M_renew_5 rfl (lv_at hl 0 rfl) ?_
  refine lv_iload_n hx hb d_M_renew_6 rfl (lv_at hl 1 rfl) ?_
  have hPc := hP.sub (ws' := [(a_m, .inr (5, [.int 0, .ref a_sa, .int 0, .int 0, .int 0, .ref a_mr, .ref a_me, .ref a_le, .int 0, .ref a_mc, .ref a_mt, .ref a_mk, .ref a_my, .ref a_mb, .ref a_mx, .ref a_ml, .int 0, .ref a_mh, .ref a_mf, .int 0, .ref a_mz, .int 0]))]) [0] rfl
  have hKc := hK.sub (tys' := []) [] rfl
  refine vp_callSi (va_Run.run (va_runV (As := [.int p0]) (rest := []) ⟨hx, hb, hml, hown, hts⟩ (c_Mo_isOut l dC dI adK adV (a_m := a_m) (p0 := p0) (a_sa := a_sa) (a_mr := a_mr) (a_me := a_me) (a_le := a_le) (a_mc := a_mc) (a_mt := a_mt) (a_mk := a_mk) (a_my := a_my) (a_mb := a_mb) (a_mx := a_mx) (a_ml := a_ml) (a_mh := a_mh) (a_mf := a_mf) (a_mz := a_mz)) (cwV 1 hts (gV tw_798 tw_800 tw_40 tw_46 tw_801) rfl rfl rfl (by decide +kernel) ⟨(Nat.le_of_ble_eq_true rfl), (Nat.le_of_ble_eq_true rfl)⟩) ⟨fun a U g mk q => by obtain ⟨q0, qZ, qP, qK⟩ := q; exact ⟨q0, zz_call qZ, qP, va_K.moved (u := U) (U := U.calling g mk a) (Vm.Alike.refl U.vm) qK⟩, va_recv hKc hPc (ci := 5) (q0 := 0) rfl rfl, fun U hU hW => ⟨rfl, zz_ro hS hU hW hZ, by rw [hU]; exact hPc, va_K.moved hW.alike hKc⟩⟩ rfl rfl hl.1 rfl (lv_room (Nat.le_of_ble_eq_true rfl)) d_M_renew_7 ⟨(Nat.le_of_ble_eq_true rfl), (Nat.le_of_ble_eq_true rfl)⟩)) (fun r_1 hw_2 => ?_)
  obtain rfl : r_1 = 0 := hw_2
  refine lv_if_eq (tgt := 20) hx hb d_M_renew_10 (by decide) (fun c_3 => ?_) (fun c_3 => ?_)
  · refine lv_iconst (v := 0) hx hb d_M_renew_20 (by decide) ?_
    exact W.iret (v := 0) hx hb hr (fun t ht hW => ⟨⟨0, (), rfl, rfl, trivial⟩, hS.F ht⟩) hS.2.2 d_M_renew_21
  · exact absurd (by decide) c_3
set_option maxHeartbeats 4000000 in
set_option maxRecDepth 100000 in
theorem c_Mo_recall (l : Launch) (dC : Nat → ClassId) (dI : Nat → Nat → Nat) (adK adV : Nat → Nat) (a_m : Nat) (p0 : Int32) (p1 : Int32) (a_sa : Nat) (a_mr : Nat) (a_me : Nat) (a_le : Nat) (a_mc : Nat) (a_mt : Nat) (a_mk : Nat) (a_my : Nat) (a_mb : Nat) (a_mx : Nat) (a_ml : Nat) (a_mh : Nat) (a_mf : Nat) (a_mz : Nat) (sz : Nat) : Met l y_M_recall ws_M_recall ({ frames := 1, cells := 0, slots := 0, locals := 21 }) (va_Pc [.ref a_m, .int p0, .int p1] (fun U => U.heap.size = sz ∧ zz adK adV (va_A [(a_m, .inr (5, [.int 0, .ref a_sa, .int 0, .int 0, .int 0, .ref a_mr, .ref a_me, .ref a_le, .int 0, .ref a_mc, .ref a_mt, .ref a_mk, .ref a_my, .ref a_mb, .ref a_mx, .ref a_ml, .int 0, .ref a_mh, .ref a_mf, .int 0, .ref a_mz, .int 0]))] sz) U ∧ va_P (dC, dI) vwCl [(a_m, .inr (5, [.int 0, .ref a_sa, .int 0, .int 0, .int 0, .ref a_mr, .ref a_me, .ref a_le, .int 0, .ref a_mc, .ref a_mt, .ref a_mk, .ref a_my, .ref a_mb, .ref a_mx, .ref a_ml, .int 0, .ref a_mh, .ref a_mf, .int 0, .ref a_mz, .int 0]))] U.heap ∧ va_K (dC, dI) vwCl [] U ∧ va_D (fun _ => True) [(a_m, .inr (5, [.int 0, .ref a_sa, .int 0, .int 0, .int 0, .ref a_mr, .ref a_me, .ref a_le, .int 0, .ref a_mc, .ref a_mt, .ref a_mk, .ref a_my, .ref a_mb, .ref a_mx, .ref a_ml, .int 0, .ref a_mh, .ref a_mf, .int 0, .ref a_mz, .int 0]))])) (va_Qi (fun (r : Int32) (_ : Unit) => r = 0) (fun (_ : Unit) (_ : State) => True) (va_A [(a_m, .inr (5, [.int 0, .ref a_sa, .int 0, .int 0, .int 0, .ref a_mr, .ref a_me, .ref a_le, .int 0, .ref a_mc, .ref a_mt, .ref a_mk, .ref a_my, .ref a_mb, .ref a_mx, .ref a_ml, .int 0, .ref a_mh, .ref a_mf, .int 0, .ref a_mz, .int 0]))] sz)) 0 0 (va_A [(a_m, .inr (5, [.int 0, .ref a_sa, .int 0, .int 0, .int 0, .ref a_mr, .ref a_me, .ref a_le, .int 0, .ref a_mc, .ref a_mt, .ref a_mk, .ref a_my, .ref a_mb, .ref a_mx, .ref a_ml, .int 0, .ref a_mh, .ref a_mf, .int 0, .ref a_mz, .int 0]))] sz) := by
  refine Met.ofW (cc := c_M_recall) (maxL := 5) (ret := (some .int)) (by decide) rfl ?_
  intro p e s m args below meth c s₁ B hml hv
  obtain ⟨rfl, hsz, hZ, hP, hK, hD0⟩ := hv
  have hx := B.exec
  have hb := B.bytes
  have hr := B.returns
  have hts0 := atoms_spec (ws := ws_M_recall) B.pre
  have hts : ∀ w ∈ TT, w.before _ s = true := fun w h => hts0 w (List.mem_cons_of_mem _ h)
  have hown : s.vm.findClass "LoanRulesModel" = some m.cls := findClass_of_methodNamed B.named
  have hlocks := B.notSynchronized
  subst hsz
  have hD := hD0.self (sz := s.heap.size)
  generalize hAe : va_A [(a_m, .inr (5, [.int 0, .ref a_sa, .int 0, .int 0, .int 0, .ref a_mr, .ref a_me, .ref a_le, .int 0, .ref a_mc, .ref a_mt, .ref a_mk, .ref a_my, .ref a_mb, .ref a_mx, .ref a_ml, .int 0, .ref a_mh, .ref a_mf, .int 0, .ref a_mz, .int 0]))] s.heap.size = A at hD hZ ⊢
  have hA : ∀ q : Nat, s.heap.size ≤ q → A q := fun q h => by rw [← hAe]; exact Or.inr h
  clear hAe hD0
  have hS : va_S A s.heap s.heap [] := va_S.rf
  replace hP : va_P (dC, dI) vwCl [(a_m, .inr (5, [.int 0, .ref a_sa, .int 0, .int 0, .int 0, .ref a_mr, .ref a_me, .ref a_le, .int 0, .ref a_mc, .ref a_mt, .ref a_mk, .ref a_my, .ref a_mb, .ref a_mx, .ref a_ml, .int 0, .ref a_mh, .ref a_mf, .int 0, .ref a_mz, .int 0]))] s.heap := hP
  have hl := lv_entry ([.ref a_m, .int p0, .int p1]) (n := 5) (Nat.le_of_ble_eq_true rfl)
  rw [lg_entry_eq]
  generalize (lg_sl ([.ref a_m, .int p0, .int p1]) ++ List.replicate (5 - (lg_sl ([.ref a_m, .int p0, .int p1])).length) Slot.unset).toArray = ls at hl ⊢
  replace hl : lv_has ls 5 [(0, .ref a_m), (1, .int p0), (2, .int p1)] := hl
  refine lv_aload_n hx hb d_M_recall_0 rfl (lv_at hl 0 rfl) ?_
  refine lv_iconst (v := 0) hx hb d_M_recall_1 (by decide) ?_
  refine va_put (D := (dC, dI)) (ci := 5) (v := .int 0) (ty := .int) (C := "LoanRulesModel") (T := Fz_M) (N := 22) hx hb hts it_M tz_M tz_M_ok nz_M hown hK hP hD hS 0 rfl rfl 0 (by decide) (hts _ tw_601) (fun _ h9 => h9) rfl (by decide +kernel) rfl rfl (Nat.le_of_ble_eq_true rfl) d_M_recall_2 (fun H locs hP hD hS => ?_)
  replace hP : va_P (dC, dI) vwCl [(a_m, .inr (5, [.int 0, .ref a_sa, .int 0, .int 0, .int 0, .ref a_mr, .ref a_me, .ref a_le, .int 0, .ref a_mc, .ref a_mt, .ref a_mk, .ref a_my, .ref a_mb, .ref a_mx, .ref a_ml, .int 0, .ref a_mh, .ref a_mf, .int 0, .ref a_mz, .int 0]))] H := hP
  replace hD : va_D A [(a_m, .inr (5, [.int 0, .ref a_sa, .int 0, .int 0, .int 0, .ref a_mr, .ref a_me, .ref a_le, .int 0, .ref a_mc, .ref a_mt, .ref a_mk, .ref a_my, .ref a_mb, .ref a_mx, .ref a_ml, .int 0, .ref a_mh, .ref a_mf, .int 0, .ref a_mz, .int 0]))] := hD
  refine lv_aload_n hx hb d_M_recall_5 rfl (lv_at hl 0 rfl) ?_
  refine lv_iload_n hx hb d_M_recall_6 rfl (lv_at hl 1 rfl) ?_
  have hPc := hP.sub (ws' := [(a_m, .inr (5, [.int 0, .ref a_sa, .int 0, .int 0, .int 0, .ref a_mr, .ref a_me, .ref a_le, .int 0, .ref a_mc, .ref a_mt, .ref a_mk, .ref a_my, .ref a_mb, .ref a_mx, .ref a_ml, .int 0, .ref a_mh, .ref a_mf, .int 0, .ref a_mz, .int 0]))]) [0] rfl
  have hKc := hK.sub (tys' := []) [] rfl
  refine vp_callSi (va_Run.run (va_runV (As := [.int p0]) (rest := []) ⟨hx, hb, hml, hown, hts⟩ (c_Mo_isOut l dC dI adK adV (a_m := a_m) (p0 := p0) (a_sa := a_sa) (a_mr := a_mr) (a_me := a_me) (a_le := a_le) (a_mc := a_mc) (a_mt := a_mt) (a_mk := a_mk) (a_my := a_my) (a_mb := a_mb) (a_mx := a_mx) (a_ml := a_ml) (a_mh := a_mh) (a_mf := a_mf) (a_mz := a_mz)) (cwV 1 hts (gV tw_798 tw_800 tw_40 tw_46 tw_801) rfl rfl rfl (by decide +kernel) ⟨(Nat.le_of_ble_eq_true rfl), (Nat.le_of_ble_eq_true rfl)⟩) ⟨fun a U g mk q => by obtain ⟨q0, qZ, qP, qK⟩ := q; exact ⟨q0, zz_call qZ, qP, va_K.moved (u := U) (U := U.calling g mk a) (Vm.Alike.refl U.vm) qK⟩, va_recv hKc hPc (ci := 5) (q0 := 0) rfl rfl, fun U hU hW => ⟨rfl, zz_ro hS hU hW hZ, by rw [hU]; exact hPc, va_K.moved hW.alike hKc⟩⟩ rfl rfl hl.1 rfl (lv_room (Nat.le_of_ble_eq_true rfl)) d_M_recall_7 ⟨(Nat.le_of_ble_eq_true rfl), (Nat.le_of_ble_eq_true rfl)⟩)) (fun r_1 hw_2 => ?_)
  obtain rfl : r_1 = 0 := hw_2
  refine lv_if_eq (tgt := 20) hx hb d_M_recall_10 (by decide) (fun c_3 => ?_) (fun c_3 => ?_)
  · refine lv_iconst (v := 0) hx hb d_M_recall_20 (by decide) ?_
    exact W.iret (v := 0) hx hb hr (fun t ht hW => ⟨⟨0, (), rfl, rfl, trivial⟩, hS.F ht⟩) hS.2.2 d_M_recall_21
  · exact absurd (by decide) c_3
set_option maxHeartbeats 4000000 in
set_option maxRecDepth 100000 in
theorem c_Mo_back (l : Launch) (dC : Nat → ClassId) (dI : Nat → Nat → Nat) (adK adV : Nat → Nat) (a_m : Nat) (p0 : Int32) (a_sa : Nat) (a_mr : Nat) (a_me : Nat) (a_le : Nat) (a_mc : Nat) (a_mt : Nat) (a_mk : Nat) (a_my : Nat) (a_mb : Nat) (a_mx : Nat) (a_ml : Nat) (a_mh : Nat) (a_mf : Nat) (a_mz : Nat) (sz : Nat) : Met l y_M_back ws_M_back ({ frames := 1, cells := 0, slots := 0, locals := 21 }) (va_Pc [.ref a_m, .int p0] (fun U => U.heap.size = sz ∧ zz adK adV (va_A [(a_m, .inr (5, [.int 0, .ref a_sa, .int 0, .int 0, .int 0, .ref a_mr, .ref a_me, .ref a_le, .int 0, .ref a_mc, .ref a_mt, .ref a_mk, .ref a_my, .ref a_mb, .ref a_mx, .ref a_ml, .int 0, .ref a_mh, .ref a_mf, .int 0, .ref a_mz, .int 0]))] sz) U ∧ va_P (dC, dI) vwCl [(a_m, .inr (5, [.int 0, .ref a_sa, .int 0, .int 0, .int 0, .ref a_mr, .ref a_me, .ref a_le, .int 0, .ref a_mc, .ref a_mt, .ref a_mk, .ref a_my, .ref a_mb, .ref a_mx, .ref a_ml, .int 0, .ref a_mh, .ref a_mf, .int 0, .ref a_mz, .int 0]))] U.heap ∧ va_K (dC, dI) vwCl [] U ∧ va_D (fun _ => True) [(a_m, .inr (5, [.int 0, .ref a_sa, .int 0, .int 0, .int 0, .ref a_mr, .ref a_me, .ref a_le, .int 0, .ref a_mc, .ref a_mt, .ref a_mk, .ref a_my, .ref a_mb, .ref a_mx, .ref a_ml, .int 0, .ref a_mh, .ref a_mf, .int 0, .ref a_mz, .int 0]))])) (va_Qi (fun (r : Int32) (_ : Unit) => r = 0) (fun (_ : Unit) (_ : State) => True) (va_A [(a_m, .inr (5, [.int 0, .ref a_sa, .int 0, .int 0, .int 0, .ref a_mr, .ref a_me, .ref a_le, .int 0, .ref a_mc, .ref a_mt, .ref a_mk, .ref a_my, .ref a_mb, .ref a_mx, .ref a_ml, .int 0, .ref a_mh, .ref a_mf, .int 0, .ref a_mz, .int 0]))] sz)) 0 0 (va_A [(a_m, .inr (5, [.int 0, .ref a_sa, .int 0, .int 0, .int 0, .ref a_mr, .ref a_me, .ref a_le, .int 0, .ref a_mc, .ref a_mt, .ref a_mk, .ref a_my, .ref a_mb, .ref a_mx, .ref a_ml, .int 0, .ref a_mh, .ref a_mf, .int 0, .ref a_mz, .int 0]))] sz) := by
  refine Met.ofW (cc := c_M_back) (maxL := 2) (ret := (some .int)) (by decide) rfl ?_
  intro p e s m args below meth c s₁ B hml hv
  obtain ⟨rfl, hsz, hZ, hP, hK, hD0⟩ := hv
  have hx := B.exec
  have hb := B.bytes
  have hr := B.returns
  have hts0 := atoms_spec (ws := ws_M_back) B.pre
  have hts : ∀ w ∈ TT, w.before _ s = true := fun w h => hts0 w (List.mem_cons_of_mem _ h)
  have hown : s.vm.findClass "LoanRulesModel" = some m.cls := findClass_of_methodNamed B.named
  have hlocks := B.notSynchronized
  subst hsz
  have hD := hD0.self (sz := s.heap.size)
  generalize hAe : va_A [(a_m, .inr (5, [.int 0, .ref a_sa, .int 0, .int 0, .int 0, .ref a_mr, .ref a_me, .ref a_le, .int 0, .ref a_mc, .ref a_mt, .ref a_mk, .ref a_my, .ref a_mb, .ref a_mx, .ref a_ml, .int 0, .ref a_mh, .ref a_mf, .int 0, .ref a_mz, .int 0]))] s.heap.size = A at hD hZ ⊢
  have hA : ∀ q : Nat, s.heap.size ≤ q → A q := fun q h => by rw [← hAe]; exact Or.inr h
  clear hAe hD0
  have hS : va_S A s.heap s.heap [] := va_S.rf
  replace hP : va_P (dC, dI) vwCl [(a_m, .inr (5, [.int 0, .ref a_sa, .int 0, .int 0, .int 0, .ref a_mr, .ref a_me, .ref a_le, .int 0, .ref a_mc, .ref a_mt, .ref a_mk, .ref a_my, .ref a_mb, .ref a_mx, .ref a_ml, .int 0, .ref a_mh, .ref a_mf, .int 0, .ref a_mz, .int 0]))] s.heap := hP
  have hl := lv_entry ([.ref a_m, .int p0]) (n := 2) (Nat.le_of_ble_eq_true rfl)
  rw [lg_entry_eq]
  generalize (lg_sl ([.ref a_m, .int p0]) ++ List.replicate (2 - (lg_sl ([.ref a_m, .int p0])).length) Slot.unset).toArray = ls at hl ⊢
  replace hl : lv_has ls 2 [(0, .ref a_m), (1, .int p0)] := hl
  refine lv_aload_n hx hb d_M_back_0 rfl (lv_at hl 0 rfl) ?_
  refine lv_iconst (v := 0) hx hb d_M_back_1 (by decide) ?_
  refine va_put (D := (dC, dI)) (ci := 5) (v := .int 0) (ty := .int) (C := "LoanRulesModel") (T := Fz_M) (N := 22) hx hb hts it_M tz_M tz_M_ok nz_M hown hK hP hD hS 0 rfl rfl 0 (by decide) (hts _ tw_601) (fun _ h9 => h9) rfl (by decide +kernel) rfl rfl (Nat.le_of_ble_eq_true rfl) d_M_back_2 (fun H locs hP hD hS => ?_)
  replace hP : va_P (dC, dI) vwCl [(a_m, .inr (5, [.int 0, .ref a_sa, .int 0, .int 0, .int 0, .ref a_mr, .ref a_me, .ref a_le, .int 0, .ref a_mc, .ref a_mt, .ref a_mk, .ref a_my, .ref a_mb, .ref a_mx, .ref a_ml, .int 0, .ref a_mh, .ref a_mf, .int 0, .ref a_mz, .int 0]))] H := hP
  replace hD : va_D A [(a_m, .inr (5, [.int 0, .ref a_sa, .int 0, .int 0, .int 0, .ref a_mr, .ref a_me, .ref a_le, .int 0, .ref a_mc, .ref a_mt, .ref a_mk, .ref a_my, .ref a_mb, .ref a_mx, .ref a_ml, .int 0, .ref a_mh, .ref a_mf, .int 0, .ref a_mz, .int 0]))] := hD
  refine lv_aload_n hx hb d_M_back_5 rfl (lv_at hl 0 rfl) ?_
  refine lv_iload_n hx hb d_M_back_6 rfl (lv_at hl 1 rfl) ?_
  have hPc := hP.sub (ws' := [(a_m, .inr (5, [.int 0, .ref a_sa, .int 0, .int 0, .int 0, .ref a_mr, .ref a_me, .ref a_le, .int 0, .ref a_mc, .ref a_mt, .ref a_mk, .ref a_my, .ref a_mb, .ref a_mx, .ref a_ml, .int 0, .ref a_mh, .ref a_mf, .int 0, .ref a_mz, .int 0]))]) [0] rfl
  have hKc := hK.sub (tys' := []) [] rfl
  refine vp_callSi (va_Run.run (va_runV (As := [.int p0]) (rest := []) ⟨hx, hb, hml, hown, hts⟩ (c_Mo_isOut l dC dI adK adV (a_m := a_m) (p0 := p0) (a_sa := a_sa) (a_mr := a_mr) (a_me := a_me) (a_le := a_le) (a_mc := a_mc) (a_mt := a_mt) (a_mk := a_mk) (a_my := a_my) (a_mb := a_mb) (a_mx := a_mx) (a_ml := a_ml) (a_mh := a_mh) (a_mf := a_mf) (a_mz := a_mz)) (cwV 1 hts (gV tw_798 tw_800 tw_40 tw_46 tw_801) rfl rfl rfl (by decide +kernel) ⟨(Nat.le_of_ble_eq_true rfl), (Nat.le_of_ble_eq_true rfl)⟩) ⟨fun a U g mk q => by obtain ⟨q0, qZ, qP, qK⟩ := q; exact ⟨q0, zz_call qZ, qP, va_K.moved (u := U) (U := U.calling g mk a) (Vm.Alike.refl U.vm) qK⟩, va_recv hKc hPc (ci := 5) (q0 := 0) rfl rfl, fun U hU hW => ⟨rfl, zz_ro hS hU hW hZ, by rw [hU]; exact hPc, va_K.moved hW.alike hKc⟩⟩ rfl rfl hl.1 rfl (lv_room (Nat.le_of_ble_eq_true rfl)) d_M_back_7 ⟨(Nat.le_of_ble_eq_true rfl), (Nat.le_of_ble_eq_true rfl)⟩)) (fun r_1 hw_2 => ?_)
  obtain rfl : r_1 = 0 := hw_2
  refine lv_if_ne (tgt := 15) hx hb d_M_back_10 (by decide) (fun c_3 => ?_) (fun c_3 => ?_)
  · exact absurd (by decide) c_3
  · refine lv_iconst (v := 0) hx hb d_M_back_13 (by decide) ?_
    exact W.iret (v := 0) hx hb hr (fun t ht hW => ⟨⟨0, (), rfl, rfl, trivial⟩, hS.F ht⟩) hS.2.2 d_M_back_14
set_option maxHeartbeats 4000000 in
set_option maxRecDepth 100000 in
theorem c_Mo_explain (l : Launch) (dC : Nat → ClassId) (dI : Nat → Nat → Nat) (adK adV : Nat → Nat) (a_m : Nat) (p0 : Int32) (a_sa : Nat) (a_mr : Nat) (a_me : Nat) (a_le : Nat) (a_mc : Nat) (a_mt : Nat) (a_mk : Nat) (a_my : Nat) (a_mb : Nat) (a_mx : Nat) (a_ml : Nat) (a_mh : Nat) (a_mf : Nat) (a_mz : Nat) (sz : Nat) : Met l y_M_explain ws_M_explain ({ frames := 0, cells := 0, slots := 0, locals := 0 }) (va_Pc [.ref a_m, .int p0] (fun U => U.heap.size = sz ∧ zz adK adV (va_A [(a_m, .inr (5, [.int 0, .ref a_sa, .int 0, .int 0, .int 0, .ref a_mr, .ref a_me, .ref a_le, .int 0, .ref a_mc, .ref a_mt, .ref a_mk, .ref a_my, .ref a_mb, .ref a_mx, .ref a_ml, .int 0, .ref a_mh, .ref a_mf, .int 0, .ref a_mz, .int 0]))] sz) U ∧ va_P (dC, dI) vwCl [(a_m, .inr (5, [.int 0, .ref a_sa, .int 0, .int 0, .int 0, .ref a_mr, .ref a_me, .ref a_le, .int 0, .ref a_mc, .ref a_mt, .ref a_mk, .ref a_my, .ref a_mb, .ref a_mx, .ref a_ml, .int 0, .ref a_mh, .ref a_mf, .int 0, .ref a_mz, .int 0]))] U.heap ∧ va_K (dC, dI) vwCl [] U ∧ va_D (fun _ => True) [(a_m, .inr (5, [.int 0, .ref a_sa, .int 0, .int 0, .int 0, .ref a_mr, .ref a_me, .ref a_le, .int 0, .ref a_mc, .ref a_mt, .ref a_mk, .ref a_my, .ref a_mb, .ref a_mx, .ref a_ml, .int 0, .ref a_mh, .ref a_mf, .int 0, .ref a_mz, .int 0]))])) (va_Qi (fun (r : Int32) (_ : Unit) => r = (-1)) (fun (_ : Unit) (_ : State) => True) (va_A [(a_m, .inr (5, [.int 0, .ref a_sa, .int 0, .int 0, .int 0, .ref a_mr, .ref a_me, .ref a_le, .int 0, .ref a_mc, .ref a_mt, .ref a_mk, .ref a_my, .ref a_mb, .ref a_mx, .ref a_ml, .int 0, .ref a_mh, .ref a_mf, .int 0, .ref a_mz, .int 0]))] sz)) 0 0 (va_A [(a_m, .inr (5, [.int 0, .ref a_sa, .int 0, .int 0, .int 0, .ref a_mr, .ref a_me, .ref a_le, .int 0, .ref a_mc, .ref a_mt, .ref a_mk, .ref a_my, .ref a_mb, .ref a_mx, .ref a_ml, .int 0, .ref a_mh, .ref a_mf, .int 0, .ref a_mz, .int 0]))] sz) := by
  refine Met.ofW (cc := c_M_explain) (maxL := 2) (ret := (some .int)) (by decide) rfl ?_
  intro p e s m args below meth c s₁ B hml hv
  obtain ⟨rfl, hsz, hZ, hP, hK, hD0⟩ := hv
  have hx := B.exec
  have hb := B.bytes
  have hr := B.returns
  have hts0 := atoms_spec (ws := ws_M_explain) B.pre
  have hts : ∀ w ∈ TT, w.before _ s = true := fun w h => hts0 w (List.mem_cons_of_mem _ h)
  have hown : s.vm.findClass "LoanRulesModel" = some m.cls := findClass_of_methodNamed B.named
  have hlocks := B.notSynchronized
  subst hsz
  have hD := hD0.self (sz := s.heap.size)
  generalize hAe : va_A [(a_m, .inr (5, [.int 0, .ref a_sa, .int 0, .int 0, .int 0, .ref a_mr, .ref a_me, .ref a_le, .int 0, .ref a_mc, .ref a_mt, .ref a_mk, .ref a_my, .ref a_mb, .ref a_mx, .ref a_ml, .int 0, .ref a_mh, .ref a_mf, .int 0, .ref a_mz, .int 0]))] s.heap.size = A at hD hZ ⊢
  have hA : ∀ q : Nat, s.heap.size ≤ q → A q := fun q h => by rw [← hAe]; exact Or.inr h
  clear hAe hD0
  have hS : va_S A s.heap s.heap [] := va_S.rf
  replace hP : va_P (dC, dI) vwCl [(a_m, .inr (5, [.int 0, .ref a_sa, .int 0, .int 0, .int 0, .ref a_mr, .ref a_me, .ref a_le, .int 0, .ref a_mc, .ref a_mt, .ref a_mk, .ref a_my, .ref a_mb, .ref a_mx, .ref a_ml, .int 0, .ref a_mh, .ref a_mf, .int 0, .ref a_mz, .int 0]))] s.heap := hP
  have hl := lv_entry ([.ref a_m, .int p0]) (n := 2) (Nat.le_of_ble_eq_true rfl)
  rw [lg_entry_eq]
  generalize (lg_sl ([.ref a_m, .int p0]) ++ List.replicate (2 - (lg_sl ([.ref a_m, .int p0])).length) Slot.unset).toArray = ls at hl ⊢
  replace hl : lv_has ls 2 [(0, .ref a_m), (1, .int p0)] := hl
  refine lv_aload_n hx hb d_M_explain_0 rfl (lv_at hl 0 rfl) ?_
  refine lv_iconst (v := 0) hx hb d_M_explain_1 (by decide) ?_
  refine va_put (D := (dC, dI)) (ci := 5) (v := .int 0) (ty := .int) (C := "LoanRulesModel") (T := Fz_M) (N := 22) hx hb hts it_M tz_M tz_M_ok nz_M hown hK hP hD hS 0 rfl rfl 0 (by decide) (hts _ tw_601) (fun _ h9 => h9) rfl (by decide +kernel) rfl rfl (Nat.le_of_ble_eq_true rfl) d_M_explain_2 (fun H locs hP hD hS => ?_)
  replace hP : va_P (dC, dI) vwCl [(a_m, .inr (5, [.int 0, .ref a_sa, .int 0, .int 0, .int 0, .ref a_mr, .ref a_me, .ref a_le, .int 0, .ref a_mc, .ref a_mt, .ref a_mk, .ref a_my, .ref a_mb, .ref a_mx, .ref a_ml, .int 0, .ref a_mh, .ref a_mf, .int 0, .ref a_mz, .int 0]))] H := hP
  replace hD : va_D A [(a_m, .inr (5, [.int 0, .ref a_sa, .int 0, .int 0, .int 0, .ref a_mr, .ref a_me, .ref a_le, .int 0, .ref a_mc, .ref a_mt, .ref a_mk, .ref a_my, .ref a_mb, .ref a_mx, .ref a_ml, .int 0, .ref a_mh, .ref a_mf, .int 0, .ref a_mz, .int 0]))] := hD
  refine lv_iload_n hx hb d_M_explain_5 rfl (lv_at hl 1 rfl) ?_
  refine lv_if_lt (tgt := 17) hx hb d_M_explain_6 (by decide) (fun c_1 => ?_) (fun c_1 => ?_)
  · refine lv_iconst (v := (-1)) hx hb d_M_explain_17 (by decide) ?_
    refine lv_goto (tgt := 27) hx hb d_M_explain_18 (by decide) ?_
    exact W.iret (v := (-1)) hx hb hr (fun t ht hW => ⟨⟨(-1), (), rfl, rfl, trivial⟩, hS.F ht⟩) hS.2.2 d_M_explain_27
  · refine lv_iload_n hx hb d_M_explain_9 rfl (lv_at hl 1 rfl) ?_
    refine lv_aload_n hx hb d_M_explain_10 rfl (lv_at hl 0 rfl) ?_
    refine va_get (D := (dC, dI)) (ci := 5) (v := .int 0) (C := "LoanRulesModel") (T := Fz_M) (N := 22) hx hb hts it_M hown hK hP 0 rfl rfl 19 (by decide) (hts _ tw_620) (fun _ h9 => h9) rfl d_M_explain_11 ?_
    refine lv_icmp_lt (tgt := 21) hx hb d_M_explain_14 (by decide) (fun c_2 => ?_) (fun c_2 => ?_)
    · exact absurd c_2 c_1
    · refine lv_iconst (v := (-1)) hx hb d_M_explain_17 (by decide) ?_
      refine lv_goto (tgt := 27) hx hb d_M_explain_18 (by decide) ?_
      exact W.iret (v := (-1)) hx hb hr (fun t ht hW => ⟨⟨(-1), (), rfl, rfl, trivial⟩, hS.F ht⟩) hS.2.2 d_M_explain_27
set_option maxHeartbeats 4000000 in
set_option maxRecDepth 100000 in
theorem c_Mo_never (l : Launch) (dC : Nat → ClassId) (dI : Nat → Nat → Nat) (adK adV : Nat → Nat) (a_m : Nat) (p0 : Int32) (a_sa : Nat) (a_mr : Nat) (a_me : Nat) (a_le : Nat) (a_mc : Nat) (a_mt : Nat) (a_mk : Nat) (a_my : Nat) (a_mb : Nat) (a_mx : Nat) (a_ml : Nat) (a_mh : Nat) (a_mf : Nat) (a_mz : Nat) (sz : Nat) : Met l y_M_never ws_M_never ({ frames := 0, cells := 0, slots := 0, locals := 0 }) (va_Pc [.ref a_m, .int p0] (fun U => U.heap.size = sz ∧ zz adK adV (va_A [(a_m, .inr (5, [.int 0, .ref a_sa, .int 0, .int 0, .int 0, .ref a_mr, .ref a_me, .ref a_le, .int 0, .ref a_mc, .ref a_mt, .ref a_mk, .ref a_my, .ref a_mb, .ref a_mx, .ref a_ml, .int 0, .ref a_mh, .ref a_mf, .int 0, .ref a_mz, .int 0]))] sz) U ∧ va_P (dC, dI) vwCl [(a_m, .inr (5, [.int 0, .ref a_sa, .int 0, .int 0, .int 0, .ref a_mr, .ref a_me, .ref a_le, .int 0, .ref a_mc, .ref a_mt, .ref a_mk, .ref a_my, .ref a_mb, .ref a_mx, .ref a_ml, .int 0, .ref a_mh, .ref a_mf, .int 0, .ref a_mz, .int 0]))] U.heap ∧ va_K (dC, dI) vwCl [] U ∧ va_D (fun _ => True) [(a_m, .inr (5, [.int 0, .ref a_sa, .int 0, .int 0, .int 0, .ref a_mr, .ref a_me, .ref a_le, .int 0, .ref a_mc, .ref a_mt, .ref a_mk, .ref a_my, .ref a_mb, .ref a_mx, .ref a_ml, .int 0, .ref a_mh, .ref a_mf, .int 0, .ref a_mz, .int 0]))])) (va_Qi (fun (r : Int32) (_ : Unit) => r = (-1)) (fun (_ : Unit) (_ : State) => True) (va_A [(a_m, .inr (5, [.int 0, .ref a_sa, .int 0, .int 0, .int 0, .ref a_mr, .ref a_me, .ref a_le, .int 0, .ref a_mc, .ref a_mt, .ref a_mk, .ref a_my, .ref a_mb, .ref a_mx, .ref a_ml, .int 0, .ref a_mh, .ref a_mf, .int 0, .ref a_mz, .int 0]))] sz)) 0 0 (va_A [(a_m, .inr (5, [.int 0, .ref a_sa, .int 0, .int 0, .int 0, .ref a_mr, .ref a_me, .ref a_le, .int 0, .ref a_mc, .ref a_mt, .ref a_mk, .ref a_my, .ref a_mb, .ref a_mx, .ref a_ml, .int 0, .ref a_mh, .ref a_mf, .int 0, .ref a_mz, .int 0]))] sz) := by
  refine Met.ofW (cc := c_M_never) (maxL := 4) (ret := (some .int)) (by decide) rfl ?_
  intro p e s m args below meth c s₁ B hml hv
  obtain ⟨rfl, hsz, hZ, hP, hK, hD0⟩ := hv
  have hx := B.exec
  have hb := B.bytes
  have hr := B.returns
  have hts0 := atoms_spec (ws := ws_M_never) B.pre
  have hts : ∀ w ∈ TT, w.before _ s = true := fun w h => hts0 w (List.mem_cons_of_mem _ h)
  have hown : s.vm.findClass "LoanRulesModel" = some m.cls := findClass_of_methodNamed B.named
  have hlocks := B.notSynchronized
  subst hsz
  have hD := hD0.self (sz := s.heap.size)
  generalize hAe : va_A [(a_m, .inr (5, [.int 0, .ref a_sa, .int 0, .int 0, .int 0, .ref a_mr, .ref a_me, .ref a_le, .int 0, .ref a_mc, .ref a_mt, .ref a_mk, .ref a_my, .ref a_mb, .ref a_mx, .ref a_ml, .int 0, .ref a_mh, .ref a_mf, .int 0, .ref a_mz, .int 0]))] s.heap.size = A at hD hZ ⊢
  have hA : ∀ q : Nat, s.heap.size ≤ q → A q := fun q h => by rw [← hAe]; exact Or.inr h
  clear hAe hD0
  have hS : va_S A s.heap s.heap [] := va_S.rf
  replace hP : va_P (dC, dI) vwCl [(a_m, .inr (5, [.int 0, .ref a_sa, .int 0, .int 0, .int 0, .ref a_mr, .ref a_me, .ref a_le, .int 0, .ref a_mc, .ref a_mt, .ref a_mk, .ref a_my, .ref a_mb, .ref a_mx, .ref a_ml, .int 0, .ref a_mh, .ref a_mf, .int 0, .ref a_mz, .int 0]))] s.heap := hP
  have hl := lv_entry ([.ref a_m, .int p0]) (n := 4) (Nat.le_of_ble_eq_true rfl)
  rw [lg_entry_eq]
  generalize (lg_sl ([.ref a_m, .int p0]) ++ List.replicate (4 - (lg_sl ([.ref a_m, .int p0])).length) Slot.unset).toArray = ls at hl ⊢
  replace hl : lv_has ls 4 [(0, .ref a_m), (1, .int p0)] := hl
  refine lv_aload_n hx hb d_M_never_0 rfl (lv_at hl 0 rfl) ?_
  refine lv_iconst (v := 0) hx hb d_M_never_1 (by decide) ?_
  refine va_put (D := (dC, dI)) (ci := 5) (v := .int 0) (ty := .int) (C := "LoanRulesModel") (T := Fz_M) (N := 22) hx hb hts it_M tz_M tz_M_ok nz_M hown hK hP hD hS 0 rfl rfl 0 (by decide) (hts _ tw_601) (fun _ h9 => h9) rfl (by decide +kernel) rfl rfl (Nat.le_of_ble_eq_true rfl) d_M_never_2 (fun H locs hP hD hS => ?_)
  replace hP : va_P (dC, dI) vwCl [(a_m, .inr (5, [.int 0, .ref a_sa, .int 0, .int 0, .int 0, .ref a_mr, .ref a_me, .ref a_le, .int 0, .ref a_mc, .ref a_mt, .ref a_mk, .ref a_my, .ref a_mb, .ref a_mx, .ref a_ml, .int 0, .ref a_mh, .ref a_mf, .int 0, .ref a_mz, .int 0]))] H := hP
  replace hD : va_D A [(a_m, .inr (5, [.int 0, .ref a_sa, .int 0, .int 0, .int 0, .ref a_mr, .ref a_me, .ref a_le, .int 0, .ref a_mc, .ref a_mt, .ref a_mk, .ref a_my, .ref a_mb, .ref a_mx, .ref a_ml, .int 0, .ref a_mh, .ref a_mf, .int 0, .ref a_mz, .int 0]))] := hD
  refine lv_iconst (v := 0) hx hb d_M_never_5 (by decide) ?_
  refine lv_istore_n (lv' := [(2, .int 0), (0, .ref a_m), (1, .int p0)]) hx hb d_M_never_6 rfl hl (by decide) rfl (fun ls hl => ?_)
  refine lv_iconst (v := 0) hx hb d_M_never_7 (by decide) ?_
  refine lv_istore_n (lv' := [(3, .int 0), (2, .int 0), (0, .ref a_m), (1, .int p0)]) hx hb d_M_never_8 rfl hl (by decide) rfl (fun ls hl => ?_)
  refine lv_iload_n hx hb d_M_never_9 rfl (lv_at hl 0 rfl) ?_
  refine lv_aload_n hx hb d_M_never_10 rfl (lv_at hl 2 rfl) ?_
  refine va_get (D := (dC, dI)) (ci := 5) (v := .int 0) (C := "LoanRulesModel") (T := Fz_M) (N := 22) hx hb hts it_M hown hK hP 0 rfl rfl 8 (by decide) (hts _ tw_609) (fun _ h9 => h9) rfl d_M_never_11 ?_
  refine lv_icmp_ge (tgt := 46) hx hb d_M_never_14 (by decide) (fun c_1 => ?_) (fun c_1 => ?_)
  · refine lv_iconst (v := (-1)) hx hb d_M_never_46 (by decide) ?_
    exact W.iret (v := (-1)) hx hb hr (fun t ht hW => ⟨⟨(-1), (), rfl, rfl, trivial⟩, hS.F ht⟩) hS.2.2 d_M_never_47
  · exact absurd (by decide) c_1
set_option maxHeartbeats 4000000 in
set_option maxRecDepth 100000 in
theorem c_Mo_clash (l : Launch) (dC : Nat → ClassId) (dI : Nat → Nat → Nat) (adK adV : Nat → Nat) (a_m : Nat) (p0 : Int32) (p1 : Int32) (a_sa : Nat) (a_mr : Nat) (a_me : Nat) (a_le : Nat) (a_mc : Nat) (a_mt : Nat) (a_mk : Nat) (a_my : Nat) (a_mb : Nat) (a_mx : Nat) (a_ml : Nat) (a_mh : Nat) (a_mf : Nat) (a_mz : Nat) (sz : Nat) : Met l y_M_clash ws_M_clash ({ frames := 0, cells := 0, slots := 0, locals := 0 }) (va_Pc [.ref a_m, .int p0, .int p1] (fun U => U.heap.size = sz ∧ zz adK adV (va_A [(a_m, .inr (5, [.int 0, .ref a_sa, .int 0, .int 0, .int 0, .ref a_mr, .ref a_me, .ref a_le, .int 0, .ref a_mc, .ref a_mt, .ref a_mk, .ref a_my, .ref a_mb, .ref a_mx, .ref a_ml, .int 0, .ref a_mh, .ref a_mf, .int 0, .ref a_mz, .int 0]))] sz) U ∧ va_P (dC, dI) vwCl [(a_m, .inr (5, [.int 0, .ref a_sa, .int 0, .int 0, .int 0, .ref a_mr, .ref a_me, .ref a_le, .int 0, .ref a_mc, .ref a_mt, .ref a_mk, .ref a_my, .ref a_mb, .ref a_mx, .ref a_ml, .int 0, .ref a_mh, .ref a_mf, .int 0, .ref a_mz, .int 0]))] U.heap ∧ va_K (dC, dI) vwCl [] U ∧ va_D (fun _ => True) [(a_m, .inr (5, [.int 0, .ref a_sa, .int 0, .int 0, .int 0, .ref a_mr, .ref a_me, .ref a_le, .int 0, .ref a_mc, .ref a_mt, .ref a_mk, .ref a_my, .ref a_mb, .ref a_mx, .ref a_ml, .int 0, .ref a_mh, .ref a_mf, .int 0, .ref a_mz, .int 0]))])) (va_Qi (fun (r : Int32) (_ : Unit) => r = (-1)) (fun (_ : Unit) (_ : State) => True) (va_A [(a_m, .inr (5, [.int 0, .ref a_sa, .int 0, .int 0, .int 0, .ref a_mr, .ref a_me, .ref a_le, .int 0, .ref a_mc, .ref a_mt, .ref a_mk, .ref a_my, .ref a_mb, .ref a_mx, .ref a_ml, .int 0, .ref a_mh, .ref a_mf, .int 0, .ref a_mz, .int 0]))] sz)) 0 0 (va_A [(a_m, .inr (5, [.int 0, .ref a_sa, .int 0, .int 0, .int 0, .ref a_mr, .ref a_me, .ref a_le, .int 0, .ref a_mc, .ref a_mt, .ref a_mk, .ref a_my, .ref a_mb, .ref a_mx, .ref a_ml, .int 0, .ref a_mh, .ref a_mf, .int 0, .ref a_mz, .int 0]))] sz) := by
  refine Met.ofW (cc := c_M_clash) (maxL := 3) (ret := (some .int)) (by decide) rfl ?_
  intro p e s m args below meth c s₁ B hml hv
  obtain ⟨rfl, hsz, hZ, hP, hK, hD0⟩ := hv
  have hx := B.exec
  have hb := B.bytes
  have hr := B.returns
  have hts0 := atoms_spec (ws := ws_M_clash) B.pre
  have hts : ∀ w ∈ TT, w.before _ s = true := fun w h => hts0 w (List.mem_cons_of_mem _ h)
  have hown : s.vm.findClass "LoanRulesModel" = some m.cls := findClass_of_methodNamed B.named
  have hlocks := B.notSynchronized
  subst hsz
  have hD := hD0.self (sz := s.heap.size)
  generalize hAe : va_A [(a_m, .inr (5, [.int 0, .ref a_sa, .int 0, .int 0, .int 0, .ref a_mr, .ref a_me, .ref a_le, .int 0, .ref a_mc, .ref a_mt, .ref a_mk, .ref a_my, .ref a_mb, .ref a_mx, .ref a_ml, .int 0, .ref a_mh, .ref a_mf, .int 0, .ref a_mz, .int 0]))] s.heap.size = A at hD hZ ⊢
  have hA : ∀ q : Nat, s.heap.size ≤ q → A q := fun q h => by rw [← hAe]; exact Or.inr h
  clear hAe hD0
  have hS : va_S A s.heap s.heap [] := va_S.rf
  replace hP : va_P (dC, dI) vwCl [(a_m, .inr (5, [.int 0, .ref a_sa, .int 0, .int 0, .int 0, .ref a_mr, .ref a_me, .ref a_le, .int 0, .ref a_mc, .ref a_mt, .ref a_mk, .ref a_my, .ref a_mb, .ref a_mx, .ref a_ml, .int 0, .ref a_mh, .ref a_mf, .int 0, .ref a_mz, .int 0]))] s.heap := hP
  have hl := lv_entry ([.ref a_m, .int p0, .int p1]) (n := 3) (Nat.le_of_ble_eq_true rfl)
  rw [lg_entry_eq]
  generalize (lg_sl ([.ref a_m, .int p0, .int p1]) ++ List.replicate (3 - (lg_sl ([.ref a_m, .int p0, .int p1])).length) Slot.unset).toArray = ls at hl ⊢
  replace hl : lv_has ls 3 [(0, .ref a_m), (1, .int p0), (2, .int p1)] := hl
  refine lv_aload_n hx hb d_M_clash_0 rfl (lv_at hl 0 rfl) ?_
  refine lv_iconst (v := 0) hx hb d_M_clash_1 (by decide) ?_
  refine va_put (D := (dC, dI)) (ci := 5) (v := .int 0) (ty := .int) (C := "LoanRulesModel") (T := Fz_M) (N := 22) hx hb hts it_M tz_M tz_M_ok nz_M hown hK hP hD hS 0 rfl rfl 0 (by decide) (hts _ tw_601) (fun _ h9 => h9) rfl (by decide +kernel) rfl rfl (Nat.le_of_ble_eq_true rfl) d_M_clash_2 (fun H locs hP hD hS => ?_)
  replace hP : va_P (dC, dI) vwCl [(a_m, .inr (5, [.int 0, .ref a_sa, .int 0, .int 0, .int 0, .ref a_mr, .ref a_me, .ref a_le, .int 0, .ref a_mc, .ref a_mt, .ref a_mk, .ref a_my, .ref a_mb, .ref a_mx, .ref a_ml, .int 0, .ref a_mh, .ref a_mf, .int 0, .ref a_mz, .int 0]))] H := hP
  replace hD : va_D A [(a_m, .inr (5, [.int 0, .ref a_sa, .int 0, .int 0, .int 0, .ref a_mr, .ref a_me, .ref a_le, .int 0, .ref a_mc, .ref a_mt, .ref a_mk, .ref a_my, .ref a_mb, .ref a_mx, .ref a_ml, .int 0, .ref a_mh, .ref a_mf, .int 0, .ref a_mz, .int 0]))] := hD
  refine lv_iload_n hx hb d_M_clash_5 rfl (lv_at hl 1 rfl) ?_
  refine lv_if_lt (tgt := 26) hx hb d_M_clash_6 (by decide) (fun c_1 => ?_) (fun c_1 => ?_)
  · refine lv_iconst (v := (-1)) hx hb d_M_clash_26 (by decide) ?_
    refine lv_goto (tgt := 40) hx hb d_M_clash_27 (by decide) ?_
    exact W.iret (v := (-1)) hx hb hr (fun t ht hW => ⟨⟨(-1), (), rfl, rfl, trivial⟩, hS.F ht⟩) hS.2.2 d_M_clash_40
  · refine lv_iload_n hx hb d_M_clash_9 rfl (lv_at hl 1 rfl) ?_
    refine lv_aload_n hx hb d_M_clash_10 rfl (lv_at hl 0 rfl) ?_
    refine va_get (D := (dC, dI)) (ci := 5) (v := .int 0) (C := "LoanRulesModel") (T := Fz_M) (N := 22) hx hb hts it_M hown hK hP 0 rfl rfl 21 (by decide) (hts _ tw_622) (fun _ h9 => h9) rfl d_M_clash_11 ?_
    refine lv_icmp_ge (tgt := 26) hx hb d_M_clash_14 (by decide) (fun c_2 => ?_) (fun c_2 => ?_)
    · refine lv_iconst (v := (-1)) hx hb d_M_clash_26 (by decide) ?_
      refine lv_goto (tgt := 40) hx hb d_M_clash_27 (by decide) ?_
      exact W.iret (v := (-1)) hx hb hr (fun t ht hW => ⟨⟨(-1), (), rfl, rfl, trivial⟩, hS.F ht⟩) hS.2.2 d_M_clash_40
    · exact absurd (lk_no c_1) c_2
