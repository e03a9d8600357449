def g_Cg_isDay (p0 : Int32) : Int32 :=
  if p0 < 0 then
    0
  else
    if 10000 ≤ p0 then
      0
    else
      1
set_option maxHeartbeats 4000000 in
set_option maxRecDepth 100000 in
theorem c_Cg_isDay (l : Launch) (dC : Nat → ClassId) (dI : Nat → Nat → Nat) (adK adV : Nat → Nat) (p0 : Int32) : Met l y_C_isDay ws_C_isDay ({ frames := 0, cells := 0, slots := 0, locals := 0 }) (va_Pc [.int p0] (fun U => zz adK adV (fun _ => False) U ∧ va_P (dC, dI) vwCl [] U.heap ∧ va_K (dC, dI) vwCl [] U)) (vp_Si (fun r => r = g_Cg_isDay p0)) 0 0 (fun _ => False) := by
  refine Met.ofW (cc := c_C_isDay) (maxL := 1) (ret := (some .boolean)) (by decide) rfl ?_
  intro p e s m args below meth c s₁ B hml hv
  obtain ⟨rfl, hZ, hP, hK⟩ := hv
  have hx := B.exec
  have hb := B.bytes
  have hr := B.returns
  have hts0 := atoms_spec (ws := ws_C_isDay) B.pre
  have hts : ∀ w ∈ TT, w.before _ s = true := fun w h => hts0 w (List.mem_cons_of_mem _ h)
  have hown : s.vm.findClass "LoanRules" = some m.cls := findClass_of_methodNamed B.named
  have hlocks := B.notSynchronized
  have hS : va_S (fun _ => False) s.heap s.heap [] := va_S.rf
  replace hP : va_P (dC, dI) vwCl [] s.heap := hP
  have hl := lv_entry ([.int p0]) (n := 1) (Nat.le_of_ble_eq_true rfl)
  rw [lg_entry_eq]
  generalize (lg_sl ([.int p0]) ++ List.replicate (1 - (lg_sl ([.int p0])).length) Slot.unset).toArray = ls at hl ⊢
  replace hl : lv_has ls 1 [(0, .int p0)] := hl
  obtain ⟨z, hz⟩ : ∃ z, z = g_Cg_isDay p0 := ⟨_, rfl⟩
  have hE := hz
  rw [g_Cg_isDay] at hE
  refine lv_iload_n hx hb d_C_isDay_0 rfl (lv_at hl 0 rfl) ?_
  refine lv_if_lt (tgt := 15) hx hb d_C_isDay_1 (by decide) (fun c_1 => ?_) (fun c_1 => ?_)
  · rw [if_pos c_1] at hE
    refine lv_iconst (v := 0) hx hb d_C_isDay_15 (by decide) ?_
    exact W.zret (v := 0) hx hb hr rfl (fun t ht hW => ⟨0, rfl, hE.symm.trans hz, ht⟩) (fun _ h => by cases h) d_C_isDay_16
  · rw [if_neg c_1] at hE
    refine lv_iload_n hx hb d_C_isDay_4 rfl (lv_at hl 0 rfl) ?_
    refine lv_sipush (v := 10000) hx hb d_C_isDay_5 (by decide) ?_
    refine lv_icmp_ge (tgt := 15) hx hb d_C_isDay_8 (by decide) (fun c_2 => ?_) (fun c_2 => ?_)
    · rw [if_pos c_2] at hE
      refine lv_iconst (v := 0) hx hb d_C_isDay_15 (by decide) ?_
      exact W.zret (v := 0) hx hb hr rfl (fun t ht hW => ⟨0, rfl, hE.symm.trans hz, ht⟩) (fun _ h => by cases h) d_C_isDay_16
    · rw [if_neg c_2] at hE
      refine lv_iconst (v := 1) hx hb d_C_isDay_11 (by decide) ?_
      refine lv_goto (tgt := 16) hx hb d_C_isDay_12 (by decide) ?_
      exact W.zret (v := 1) hx hb hr rfl (fun t ht hW => ⟨1, rfl, hE.symm.trans hz, ht⟩) (fun _ h => by cases h) d_C_isDay_16
theorem dayC {x : Int32} (c : ¬ g_Cg_isDay x = 0) : 0 ≤ x.toInt ∧ x.toInt < 10000 := dayM c
theorem in64 {x : Int32} (h : 0 ≤ x.toInt ∧ x.toInt < 10000) : vp_in (x / 64) 157 := by
  obtain ⟨j, hj, rfl⟩ := vp_in_of (x := x) (n := 10000) (by rw [vp_in_iff]; omega) (by decide)
  have e : nI j / 64 = nI (j / 64) := pk_div (a := j) (d := 64) (by omega) (by decide) (by decide)
  rw [e]; exact vp_in_nI (by omega) (by decide)
theorem or63q : ∀ q, q < 157 → ∀ r, r < 64 → (nI (64 * q + r) ||| 63 = nI ((64 * q + r) ||| 63)) ∧ 64 * q + r < ((64 * q + r) ||| 63) + 1 ∧ ((64 * q + r) ||| 63) + 1 ≤ 10048 := by decide +kernel
theorem or63 : ∀ j, j < 10000 → (nI j ||| 63 = nI (j ||| 63)) ∧ j < (j ||| 63) + 1 ∧ (j ||| 63) + 1 ≤ 10048 := by
  intro j hj
  have h := or63q (j / 64) (by omega) (j % 64) (Nat.mod_lt _ (by decide))
  rw [Nat.div_add_mod] at h
  exact h
theorem or64 {x : Int32} (h : 0 ≤ x.toInt ∧ x.toInt < 10000) : x.toInt < ((x ||| 63) + 1).toInt ∧ ((x ||| 63) + 1).toInt < 20000 := by
  obtain ⟨j, hj, rfl⟩ := vp_in_of (x := x) (n := 10000) (by rw [vp_in_iff]; omega) (by decide)
  obtain ⟨e, h1, h2⟩ := or63 j hj
  rw [e, nI_1, nI_toInt (by omega), nI_toInt (by omega)]; omega
theorem li_mo {x : Int32} {n : Nat} (h : 0 ≤ x.toInt ∧ x.toInt < 20000) (c : ¬ (10000 : Int32) ≤ x) (hm : 20001 - x.toInt.toNat ≤ n + 1) : 20001 - ((x ||| 63) + 1).toInt.toNat ≤ n := by
  rw [li_le, li_10000] at c
  have := or64 (x := x) (by omega)
  omega
theorem li_so {x : Int32} (h : 0 ≤ x.toInt ∧ x.toInt < 20000) (c : ¬ (10000 : Int32) ≤ x) : 0 ≤ ((x ||| 63) + 1).toInt ∧ ((x ||| 63) + 1).toInt < 20000 := by
  rw [li_le, li_10000] at c
  have := or64 (x := x) (by omega)
  omega
theorem li_max {x : Int32} (h : x.toInt < 20000) : 0 ≤ (if x < 0 then 0 else x : Int32).toInt ∧ (if x < 0 then 0 else x : Int32).toInt < 20000 := by
  by_cases c : x < 0
  · rw [if_pos c]; decide
  · rw [if_neg c]; rw [li_lt, li_0] at c; omega
theorem li_d {x : Int32} (h : 0 ≤ x.toInt ∧ x.toInt < 20000) (c : ¬ (10000 : Int32) ≤ x) : 0 ≤ x.toInt ∧ x.toInt < 10000 := by
  rw [li_le, li_10000] at c; omega
def g_Cg_isPerson (p0 : Int32) : Int32 :=
  if p0 < 0 then
    0
  else
    if 50 ≤ p0 then
      0
    else
      1
set_option maxHeartbeats 4000000 in
set_option maxRecDepth 100000 in
theorem c_Cg_isPerson (l : Launch) (dC : Nat → ClassId) (dI : Nat → Nat → Nat) (adK adV : Nat → Nat) (p0 : Int32) : Met l y_C_isPerson ws_C_isPerson ({ frames := 0, cells := 0, slots := 0, locals := 0 }) (va_Pc [.int p0] (fun U => zz adK adV (fun _ => False) U ∧ va_P (dC, dI) vwCl [] U.heap ∧ va_K (dC, dI) vwCl [] U)) (vp_Si (fun r => r = g_Cg_isPerson p0)) 0 0 (fun _ => False) := by
  refine Met.ofW (cc := c_C_isPerson) (maxL := 1) (ret := (some .boolean)) (by decide) rfl ?_
  intro p e s m args below meth c s₁ B hml hv
  obtain ⟨rfl, hZ, hP, hK⟩ := hv
  have hx := B.exec
  have hb := B.bytes
  have hr := B.returns
  have hts0 := atoms_spec (ws := ws_C_isPerson) B.pre
  have hts : ∀ w ∈ TT, w.before _ s = true := fun w h => hts0 w (List.mem_cons_of_mem _ h)
  have hown : s.vm.findClass "LoanRules" = some m.cls := findClass_of_methodNamed B.named
  have hlocks := B.notSynchronized
  have hS : va_S (fun _ => False) s.heap s.heap [] := va_S.rf
  replace hP : va_P (dC, dI) vwCl [] s.heap := hP
  have hl := lv_entry ([.int p0]) (n := 1) (Nat.le_of_ble_eq_true rfl)
  rw [lg_entry_eq]
  generalize (lg_sl ([.int p0]) ++ List.replicate (1 - (lg_sl ([.int p0])).length) Slot.unset).toArray = ls at hl ⊢
  replace hl : lv_has ls 1 [(0, .int p0)] := hl
  obtain ⟨z, hz⟩ : ∃ z, z = g_Cg_isPerson p0 := ⟨_, rfl⟩
  have hE := hz
  rw [g_Cg_isPerson] at hE
  refine lv_iload_n hx hb d_C_isPerson_0 rfl (lv_at hl 0 rfl) ?_
  refine lv_if_lt (tgt := 14) hx hb d_C_isPerson_1 (by decide) (fun c_1 => ?_) (fun c_1 => ?_)
  · rw [if_pos c_1] at hE
    refine lv_iconst (v := 0) hx hb d_C_isPerson_14 (by decide) ?_
    exact W.zret (v := 0) hx hb hr rfl (fun t ht hW => ⟨0, rfl, hE.symm.trans hz, ht⟩) (fun _ h => by cases h) d_C_isPerson_15
  · rw [if_neg c_1] at hE
    refine lv_iload_n hx hb d_C_isPerson_4 rfl (lv_at hl 0 rfl) ?_
    refine lv_bipush (v := 50) hx hb d_C_isPerson_5 (by decide) ?_
    refine lv_icmp_ge (tgt := 14) hx hb d_C_isPerson_7 (by decide) (fun c_2 => ?_) (fun c_2 => ?_)
    · rw [if_pos c_2] at hE
      refine lv_iconst (v := 0) hx hb d_C_isPerson_14 (by decide) ?_
      exact W.zret (v := 0) hx hb hr rfl (fun t ht hW => ⟨0, rfl, hE.symm.trans hz, ht⟩) (fun _ h => by cases h) d_C_isPerson_15
    · rw [if_neg c_2] at hE
      refine lv_iconst (v := 1) hx hb d_C_isPerson_10 (by decide) ?_
      refine lv_goto (tgt := 15) hx hb d_C_isPerson_11 (by decide) ?_
      exact W.zret (v := 1) hx hb hr rfl (fun t ht hW => ⟨1, rfl, hE.symm.trans hz, ht⟩) (fun _ h => by cases h) d_C_isPerson_15
def g_Cg_isItem (p0 : Int32) : Int32 :=
  if p0 < 0 then
    0
  else
    if 50 ≤ p0 then
      0
    else
      1
set_option maxHeartbeats 4000000 in
set_option maxRecDepth 100000 in
theorem c_Cg_isItem (l : Launch) (dC : Nat → ClassId) (dI : Nat → Nat → Nat) (adK adV : Nat → Nat) (p0 : Int32) : Met l y_C_isItem ws_C_isItem ({ frames := 0, cells := 0, slots := 0, locals := 0 }) (va_Pc [.int p0] (fun U => zz adK adV (fun _ => False) U ∧ va_P (dC, dI) vwCl [] U.heap ∧ va_K (dC, dI) vwCl [] U)) (vp_Si (fun r => r = g_Cg_isItem p0)) 0 0 (fun _ => False) := by
  refine Met.ofW (cc := c_C_isItem) (maxL := 1) (ret := (some .boolean)) (by decide) rfl ?_
  intro p e s m args below meth c s₁ B hml hv
  obtain ⟨rfl, hZ, hP, hK⟩ := hv
  have hx := B.exec
  have hb := B.bytes
  have hr := B.returns
  have hts0 := atoms_spec (ws := ws_C_isItem) B.pre
  have hts : ∀ w ∈ TT, w.before _ s = true := fun w h => hts0 w (List.mem_cons_of_mem _ h)
  have hown : s.vm.findClass "LoanRules" = some m.cls := findClass_of_methodNamed B.named
  have hlocks := B.notSynchronized
  have hS : va_S (fun _ => False) s.heap s.heap [] := va_S.rf
  replace hP : va_P (dC, dI) vwCl [] s.heap := hP
  have hl := lv_entry ([.int p0]) (n := 1) (Nat.le_of_ble_eq_true rfl)
  rw [lg_entry_eq]
  generalize (lg_sl ([.int p0]) ++ List.replicate (1 - (lg_sl ([.int p0])).length) Slot.unset).toArray = ls at hl ⊢
  replace hl : lv_has ls 1 [(0, .int p0)] := hl
  obtain ⟨z, hz⟩ : ∃ z, z = g_Cg_isItem p0 := ⟨_, rfl⟩
  have hE := hz
  rw [g_Cg_isItem] at hE
  refine lv_iload_n hx hb d_C_isItem_0 rfl (lv_at hl 0 rfl) ?_
  refine lv_if_lt (tgt := 14) hx hb d_C_isItem_1 (by decide) (fun c_1 => ?_) (fun c_1 => ?_)
  · rw [if_pos c_1] at hE
    refine lv_iconst (v := 0) hx hb d_C_isItem_14 (by decide) ?_
    exact W.zret (v := 0) hx hb hr rfl (fun t ht hW => ⟨0, rfl, hE.symm.trans hz, ht⟩) (fun _ h => by cases h) d_C_isItem_15
  · rw [if_neg c_1] at hE
    refine lv_iload_n hx hb d_C_isItem_4 rfl (lv_at hl 0 rfl) ?_
    refine lv_bipush (v := 50) hx hb d_C_isItem_5 (by decide) ?_
    refine lv_icmp_ge (tgt := 14) hx hb d_C_isItem_7 (by decide) (fun c_2 => ?_) (fun c_2 => ?_)
    · rw [if_pos c_2] at hE
      refine lv_iconst (v := 0) hx hb d_C_isItem_14 (by decide) ?_
      exact W.zret (v := 0) hx hb hr rfl (fun t ht hW => ⟨0, rfl, hE.symm.trans hz, ht⟩) (fun _ h => by cases h) d_C_isItem_15
    · rw [if_neg c_2] at hE
      refine lv_iconst (v := 1) hx hb d_C_isItem_10 (by decide) ?_
      refine lv_goto (tgt := 15) hx hb d_C_isItem_11 (by decide) ?_
      exact W.zret (v := 1) hx hb hr rfl (fun t ht hW => ⟨1, rfl, hE.symm.trans hz, ht⟩) (fun _ h => by cases h) d_C_isItem_15
theorem persC {x : Int32} (c : ¬ g_Cg_isPerson x = 0) : 0 ≤ x.toInt ∧ x.toInt < 50 := persM c
theorem itemC {x : Int32} (c : ¬ g_Cg_isItem x = 0) : 0 ≤ x.toInt ∧ x.toInt < 50 := persM c
def g_Cg_holds (p0 : Int32) (f_cw : Nat → Int64) : Int32 :=
  if (g_Cg_isDay p0) = 0 then
    0
  else
    if (lg_cmp ((((f_cw (p0 / 64).toNatClampNeg).toUInt64 >>> ((p0 - p0 / 64 * 64).toInt64.toUInt64 &&& Int64.toUInt64 63)).toInt64) &&& 1) 0) = 0 then
      0
    else
      1
set_option maxHeartbeats 4000000 in
set_option maxRecDepth 100000 in
theorem c_Cg_holds (l : Launch) (dC : Nat → ClassId) (dI : Nat → Nat → Nat) (adK adV : Nat → Nat) (a_cd : Nat) (a_cw : Nat) (k_cw : ClassId) (p0 : Int32) (f_cw : Nat → Int64) : Met l y_D_holds ws_D_holds ({ frames := 1, cells := 0, slots := 0, locals := 20 }) (va_Pc [.ref a_cd, .int p0] (fun U => zz adK adV (fun _ => False) U ∧ va_P (dC, dI) vwCl [(a_cd, .inr (1, [.ref a_cw])), (a_cw, .inl (k_cw, 157, .inr (.inl f_cw)))] U.heap ∧ va_K (dC, dI) vwCl [(k_cw, .long)] U)) (vp_Si (fun r => r = g_Cg_holds p0 f_cw)) 0 0 (fun _ => False) := by
  refine Met.ofW (cc := c_D_holds) (maxL := 2) (ret := (some .boolean)) (by decide) rfl ?_
  intro p e s m args below meth c s₁ B hml hv
  obtain ⟨rfl, hZ, hP, hK⟩ := hv
  have hx := B.exec
  have hb := B.bytes
  have hr := B.returns
  have hts0 := atoms_spec (ws := ws_D_holds) B.pre
  have hts : ∀ w ∈ TT, w.before _ s = true := fun w h => hts0 w (List.mem_cons_of_mem _ h)
  have hown : s.vm.findClass "LoanRules$DaySet" = some m.cls := findClass_of_methodNamed B.named
  have hlocks := B.notSynchronized
  have hS : va_S (fun _ => False) s.heap s.heap [] := va_S.rf
  replace hP : va_P (dC, dI) vwCl [(a_cd, .inr (1, [.ref a_cw])), (a_cw, .inl (k_cw, 157, .inr (.inl f_cw)))] s.heap := hP
  have hl := lv_entry ([.ref a_cd, .int p0]) (n := 2) (Nat.le_of_ble_eq_true rfl)
  rw [lg_entry_eq]
  generalize (lg_sl ([.ref a_cd, .int p0]) ++ List.replicate (2 - (lg_sl ([.ref a_cd, .int p0])).length) Slot.unset).toArray = ls at hl ⊢
  replace hl : lv_has ls 2 [(0, .ref a_cd), (1, .int p0)] := hl
  obtain ⟨z, hz⟩ : ∃ z, z = g_Cg_holds p0 f_cw := ⟨_, rfl⟩
  have hE := hz
  rw [g_Cg_holds] at hE
  refine lv_iload_n hx hb d_D_holds_0 rfl (lv_at hl 1 rfl) ?_
  have hPc := hP.sub (ws' := []) [] rfl
  have hKc := hK.sub (tys' := []) [] rfl
  refine vp_callSi (va_Run.run (va_runSN (As := [.int p0]) (rest := []) ⟨hx, hb, hml, hown, hts⟩ (c_Cg_isDay l dC dI adK adV (p0 := p0)) ⟨va_cnB 1 hts (gI tw_354) rfl rfl rfl (zn_D_15 hZ) (hts _ tw_42) (by decide +kernel) ⟨(Nat.le_of_ble_eq_true rfl), (Nat.le_of_ble_eq_true rfl)⟩, (hts _ tw_353), trivial⟩ ⟨fun a U g mk q => by obtain ⟨q0, qZ, qP, qK⟩ := q; exact ⟨q0, zz_call qZ, qP, va_K.moved (u := U) (U := U.calling g mk a) (Vm.Alike.refl U.vm) qK⟩, fun U hU hW => ⟨rfl, zz_rr hU hW hZ, by rw [hU]; exact hPc, va_K.moved hW.alike hKc⟩⟩ rfl rfl hl.1 rfl (lv_room (Nat.le_of_ble_eq_true rfl)) d_D_holds_1 ⟨(Nat.le_of_ble_eq_true rfl), (Nat.le_of_ble_eq_true rfl)⟩)) (fun r_1 hw_2 => ?_)
  clear hPc hKc
  subst hw_2
  refine lv_if_eq (tgt := 32) hx hb d_D_holds_4 (by decide) (fun c_3 => ?_) (fun c_3 => ?_)
  · rw [if_pos c_3] at hE
    refine lv_iconst (v := 0) hx hb d_D_holds_32 (by decide) ?_
    exact W.zret (v := 0) hx hb hr rfl (fun t ht hW => ⟨0, rfl, hE.symm.trans hz, ht⟩) (fun _ h => by cases h) d_D_holds_33
  · rw [if_neg c_3] at hE
    refine lv_aload_n hx hb d_D_holds_7 rfl (lv_at hl 0 rfl) ?_
    refine va_get (D := (dC, dI)) (ci := 1) (v := .ref a_cw) (C := "LoanRules$DaySet") (T := Fz_D) (N := 1) hx hb hts it_D hown hK hP 0 rfl rfl 0 (by decide) (hts _ tw_94) (fun _ h9 => h9) rfl d_D_holds_8 ?_
    refine lv_iload_n hx hb d_D_holds_11 rfl (lv_at hl 1 rfl) ?_
    refine lv_bipush (v := 64) hx hb d_D_holds_12 (by decide) ?_
    refine lv_idiv hx hb d_D_holds_14 (by decide) ?_
    have i_4 : vp_in (p0 / 64) 157 := in64 (dayC c_3)
    refine va_lald (D := (dC, dI)) hx hb hK hP 1 0 rfl rfl i_4 d_D_holds_15 ?_
    refine lv_iload_n hx hb d_D_holds_16 rfl (lv_at hl 1 rfl) ?_
    refine lv_bipush (v := 64) hx hb d_D_holds_17 (by decide) ?_
    refine lv_irem hx hb d_D_holds_19 (by decide) ?_
    refine lv_lushr hx hb d_D_holds_20 rfl ?_
    refine lv_lconst (v := 1) hx hb d_D_holds_21 rfl ?_
    refine lv_land hx hb d_D_holds_22 ?_
    refine lv_lconst (v := 0) hx hb d_D_holds_23 rfl ?_
    refine W.lcmp hx hb d_D_holds_24 ?_
    refine lv_if_eq (tgt := 32) hx hb d_D_holds_25 (by decide) (fun c_5 => ?_) (fun c_5 => ?_)
    · rw [if_pos c_5] at hE
      refine lv_iconst (v := 0) hx hb d_D_holds_32 (by decide) ?_
      exact W.zret (v := 0) hx hb hr rfl (fun t ht hW => ⟨0, rfl, hE.symm.trans hz, ht⟩) (fun _ h => by cases h) d_D_holds_33
    · rw [if_neg c_5] at hE
      refine lv_iconst (v := 1) hx hb d_D_holds_28 (by decide) ?_
      refine lv_goto (tgt := 33) hx hb d_D_holds_29 (by decide) ?_
      exact W.zret (v := 1) hx hb hr rfl (fun t ht hW => ⟨1, rfl, hE.symm.trans hz, ht⟩) (fun _ h => by cases h) d_D_holds_33
def g_Cg_put (p0 : Int32) (p1 : Int32) (f_cw : Nat → Int64) : (Nat → Int64) :=
  if (g_Cg_isDay p0) = 0 then
    f_cw
  else
    if p1 = 0 then
      vp_updL f_cw (p0 / 64).toNatClampNeg ((f_cw (p0 / 64).toNatClampNeg) &&& (((1 : Int64) <<< ((p0 - p0 / 64 * 64).toInt64 &&& 63)) ^^^ (-1)))
    else
      vp_updL f_cw (p0 / 64).toNatClampNeg ((f_cw (p0 / 64).toNatClampNeg) ||| ((1 : Int64) <<< ((p0 - p0 / 64 * 64).toInt64 &&& 63)))
set_option maxHeartbeats 4000000 in
set_option maxRecDepth 100000 in
theorem c_Cg_put (l : Launch) (dC : Nat → ClassId) (dI : Nat → Nat → Nat) (adK adV : Nat → Nat) (a_cd : Nat) (a_cw : Nat) (k_cw : ClassId) (p0 : Int32) (p1 : Int32) (f_cw : Nat → Int64) (sz : Nat) : Met l y_D_put ws_D_put ({ frames := 1, cells := 0, slots := 0, locals := 20 }) (va_Pc [.ref a_cd, .int p0, .int p1] (fun U => U.heap.size = sz ∧ zz adK adV (va_A [(a_cd, .inr (1, [.ref a_cw])), (a_cw, .inl (k_cw, 157, .inr (.inl f_cw)))] sz) U ∧ va_P (dC, dI) vwCl [(a_cd, .inr (1, [.ref a_cw])), (a_cw, .inl (k_cw, 157, .inr (.inl f_cw)))] U.heap ∧ va_K (dC, dI) vwCl [(k_cw, .long)] U ∧ va_D (fun _ => True) [(a_cd, .inr (1, [.ref a_cw])), (a_cw, .inl (k_cw, 157, .inr (.inl f_cw)))])) (va_Qv (fun _ : Unit => True) (fun (_ : Unit) (t : State) => va_P (dC, dI) vwCl [(a_cd, .inr (1, [.ref a_cw])), (a_cw, .inl (k_cw, 157, .inr (.inl (g_Cg_put p0 p1 f_cw))))] t.heap ∧ va_K (dC, dI) vwCl [(k_cw, .long)] t ∧ va_D (va_A [(a_cd, .inr (1, [.ref a_cw])), (a_cw, .inl (k_cw, 157, .inr (.inl f_cw)))] sz) [(a_cd, .inr (1, [.ref a_cw])), (a_cw, .inl (k_cw, 157, .inr (.inl (g_Cg_put p0 p1 f_cw))))]) (va_A [(a_cd, .inr (1, [.ref a_cw])), (a_cw, .inl (k_cw, 157, .inr (.inl f_cw)))] sz)) 0 0 (va_A [(a_cd, .inr (1, [.ref a_cw])), (a_cw, .inl (k_cw, 157, .inr (.inl f_cw)))] sz) := by
  refine Met.ofW (cc := c_D_put) (maxL := 5) (ret := none) (by decide) rfl ?_
  intro p e s m args below meth c s₁ B hml hv
  obtain ⟨rfl, hsz, hZ, hP, hK, hD0⟩ := hv
  have hx := B.exec
  have hb := B.bytes
  have hr := B.returns
  have hts0 := atoms_spec (ws := ws_D_put) B.pre
  have hts : ∀ w ∈ TT, w.before _ s = true := fun w h => hts0 w (List.mem_cons_of_mem _ h)
  have hown : s.vm.findClass "LoanRules$DaySet" = some m.cls := findClass_of_methodNamed B.named
  have hlocks := B.notSynchronized
  subst hsz
  have hD := hD0.self (sz := s.heap.size)
  generalize hAe : va_A [(a_cd, .inr (1, [.ref a_cw])), (a_cw, .inl (k_cw, 157, .inr (.inl f_cw)))] s.heap.size = A at hD hZ ⊢
  have hA : ∀ q : Nat, s.heap.size ≤ q → A q := fun q h => by rw [← hAe]; exact Or.inr h
  clear hAe hD0
  have hS : va_S A s.heap s.heap [] := va_S.rf
  replace hP : va_P (dC, dI) vwCl [(a_cd, .inr (1, [.ref a_cw])), (a_cw, .inl (k_cw, 157, .inr (.inl f_cw)))] s.heap := hP
  have hl := lv_entry ([.ref a_cd, .int p0, .int p1]) (n := 5) (Nat.le_of_ble_eq_true rfl)
  rw [lg_entry_eq]
  generalize (lg_sl ([.ref a_cd, .int p0, .int p1]) ++ List.replicate (5 - (lg_sl ([.ref a_cd, .int p0, .int p1])).length) Slot.unset).toArray = ls at hl ⊢
  replace hl : lv_has ls 5 [(0, .ref a_cd), (1, .int p0), (2, .int p1)] := hl
  obtain ⟨z, hz⟩ : ∃ z, z = g_Cg_put p0 p1 f_cw := ⟨_, rfl⟩
  have hE := hz
  rw [g_Cg_put] at hE
  refine lv_iload_n hx hb d_D_put_0 rfl (lv_at hl 1 rfl) ?_
  have hPc := hP.sub (ws' := []) [] rfl
  have hKc := hK.sub (tys' := []) [] rfl
  refine vp_callSi (va_Run.run (va_runSN (As := [.int p0]) (rest := []) ⟨hx, hb, hml, hown, hts⟩ (c_Cg_isDay l dC dI adK adV (p0 := p0)) ⟨va_cnB 1 hts (gI tw_354) rfl rfl rfl (zn_D_15 hZ) (hts _ tw_42) (by decide +kernel) ⟨(Nat.le_of_ble_eq_true rfl), (Nat.le_of_ble_eq_true rfl)⟩, (hts _ tw_353), trivial⟩ ⟨fun a U g mk q => by obtain ⟨q0, qZ, qP, qK⟩ := q; exact ⟨q0, zz_call qZ, qP, va_K.moved (u := U) (U := U.calling g mk a) (Vm.Alike.refl U.vm) qK⟩, fun U hU hW => ⟨rfl, zz_ro hS hU hW hZ, by rw [hU]; exact hPc, va_K.moved hW.alike hKc⟩⟩ rfl rfl hl.1 rfl (lv_room (Nat.le_of_ble_eq_true rfl)) d_D_put_1 ⟨(Nat.le_of_ble_eq_true rfl), (Nat.le_of_ble_eq_true rfl)⟩)) (fun r_1 hw_2 => ?_)
  clear hPc hKc
  subst hw_2
  refine lv_if_ne (tgt := 8) hx hb d_D_put_4 (by decide) (fun c_3 => ?_) (fun c_3 => ?_)
  · rw [if_neg c_3] at hE
    refine lv_lconst (v := 1) hx hb d_D_put_8 rfl ?_
    refine lv_iload_n hx hb d_D_put_9 rfl (lv_at hl 1 rfl) ?_
    refine lv_bipush (v := 64) hx hb d_D_put_10 (by decide) ?_
    refine lv_irem hx hb d_D_put_12 (by decide) ?_
    refine lv_lshl hx hb d_D_put_13 rfl ?_
    refine lv_lstore_n (lv' := [(3, .long ((1 : Int64) <<< ((p0 - p0 / 64 * 64).toInt64 &&& 63))), (0, .ref a_cd), (1, .int p0), (2, .int p1)]) hx hb d_D_put_14 rfl hl (by decide) rfl (fun ls hl => ?_)
    refine lv_iload_n hx hb d_D_put_15 rfl (lv_at hl 3 rfl) ?_
    refine lv_if_eq (tgt := 35) hx hb d_D_put_16 (by decide) (fun c_4 => ?_) (fun c_4 => ?_)
    · rw [if_pos c_4] at hE
      refine lv_aload_n hx hb d_D_put_35 rfl (lv_at hl 1 rfl) ?_
      refine va_get (D := (dC, dI)) (ci := 1) (v := .ref a_cw) (C := "LoanRules$DaySet") (T := Fz_D) (N := 1) hx hb hts it_D hown hK hP 0 rfl rfl 0 (by decide) (hts _ tw_94) (fun _ h9 => h9) rfl d_D_put_36 ?_
      refine lv_iload_n hx hb d_D_put_39 rfl (lv_at hl 2 rfl) ?_
      refine lv_bipush (v := 64) hx hb d_D_put_40 (by decide) ?_
      refine lv_idiv hx hb d_D_put_42 (by decide) ?_
      refine lv_dup2_11 hx hb d_D_put_43 rfl rfl ?_
      have i_5 : vp_in (p0 / 64) 157 := in64 (dayC c_3)
      refine va_lald (D := (dC, dI)) hx hb hK hP 1 0 rfl rfl i_5 d_D_put_44 ?_
      refine lv_lload_n hx hb d_D_put_45 rfl (lv_at hl 0 rfl) ?_
      refine lv_ldc2 (v := (-1)) hx hb hown (hts _ tw_364) d_D_put_46 ?_
      refine lv_lxor hx hb d_D_put_49 ?_
      refine lv_land hx hb d_D_put_50 ?_
      have i_6 : vp_in (p0 / 64) 157 := in64 (dayC c_3)
      refine va_last (D := (dC, dI)) hx hb hK hP hD hS 1 0 rfl rfl i_6 d_D_put_51 (fun H locs hP hD hS => ?_)
      replace hP : va_P (dC, dI) vwCl [(a_cd, .inr (1, [.ref a_cw])), (a_cw, .inl (k_cw, 157, .inr (.inl (vp_updL f_cw (p0 / 64).toNatClampNeg ((f_cw (p0 / 64).toNatClampNeg) &&& (((1 : Int64) <<< ((p0 - p0 / 64 * 64).toInt64 &&& 63)) ^^^ (-1)))))))] H := hP
      replace hD : va_D A [(a_cd, .inr (1, [.ref a_cw])), (a_cw, .inl (k_cw, 157, .inr (.inl (vp_updL f_cw (p0 / 64).toNatClampNeg ((f_cw (p0 / 64).toNatClampNeg) &&& (((1 : Int64) <<< ((p0 - p0 / 64 * 64).toInt64 &&& 63)) ^^^ (-1)))))))] := hD
      have hP9 := hP.sub (ws' := [(a_cd, .inr (1, [.ref a_cw])), (a_cw, .inl (k_cw, 157, .inr (.inl (vp_updL f_cw (p0 / 64).toNatClampNeg ((f_cw (p0 / 64).toNatClampNeg) &&& (((1 : Int64) <<< ((p0 - p0 / 64 * 64).toInt64 &&& 63)) ^^^ (-1)))))))]) [0, 1] rfl
      have hD9 := hD.sub (ws' := [(a_cd, .inr (1, [.ref a_cw])), (a_cw, .inl (k_cw, 157, .inr (.inl (vp_updL f_cw (p0 / 64).toNatClampNeg ((f_cw (p0 / 64).toNatClampNeg) &&& (((1 : Int64) <<< ((p0 - p0 / 64 * 64).toInt64 &&& 63)) ^^^ (-1)))))))]) [0, 1] (by decide) rfl
      have hK9 := hK.sub (tys' := [(k_cw, .long)]) [0] rfl
      exact W.vret hx hb hr (fun t ht hW => ⟨⟨(), rfl, trivial, by rw [ht, ← hz, hE]; exact hP9, va_K.moved hW.alike hK9, by rw [← hz, hE]; exact hD9⟩, hS.F ht⟩) hS.2.2 d_D_put_52
    · rw [if_neg c_4] at hE
      refine lv_aload_n hx hb d_D_put_19 rfl (lv_at hl 1 rfl) ?_
      refine va_get (D := (dC, dI)) (ci := 1) (v := .ref a_cw) (C := "LoanRules$DaySet") (T := Fz_D) (N := 1) hx hb hts it_D hown hK hP 0 rfl rfl 0 (by decide) (hts _ tw_94) (fun _ h9 => h9) rfl d_D_put_20 ?_
      refine lv_iload_n hx hb d_D_put_23 rfl (lv_at hl 2 rfl) ?_
      refine lv_bipush (v := 64) hx hb d_D_put_24 (by decide) ?_
      refine lv_idiv hx hb d_D_put_26 (by decide) ?_
      refine lv_dup2_11 hx hb d_D_put_27 rfl rfl ?_
      have i_7 : vp_in (p0 / 64) 157 := in64 (dayC c_3)
      refine va_lald (D := (dC, dI)) hx hb hK hP 1 0 rfl rfl i_7 d_D_put_28 ?_
      refine lv_lload_n hx hb d_D_put_29 rfl (lv_at hl 0 rfl) ?_
      refine lv_lor hx hb d_D_put_30 ?_
      have i_8 : vp_in (p0 / 64) 157 := in64 (dayC c_3)
      refine va_last (D := (dC, dI)) hx hb hK hP hD hS 1 0 rfl rfl i_8 d_D_put_31 (fun H locs hP hD hS => ?_)
      replace hP : va_P (dC, dI) vwCl [(a_cd, .inr (1, [.ref a_cw])), (a_cw, .inl (k_cw, 157, .inr (.inl (vp_updL f_cw (p0 / 64).toNatClampNeg ((f_cw (p0 / 64).toNatClampNeg) ||| ((1 : Int64) <<< ((p0 - p0 / 64 * 64).toInt64 &&& 63)))))))] H := hP
      replace hD : va_D A [(a_cd, .inr (1, [.ref a_cw])), (a_cw, .inl (k_cw, 157, .inr (.inl (vp_updL f_cw (p0 / 64).toNatClampNeg ((f_cw (p0 / 64).toNatClampNeg) ||| ((1 : Int64) <<< ((p0 - p0 / 64 * 64).toInt64 &&& 63)))))))] := hD
      refine lv_goto (tgt := 52) hx hb d_D_put_32 (by decide) ?_
      have hP9 := hP.sub (ws' := [(a_cd, .inr (1, [.ref a_cw])), (a_cw, .inl (k_cw, 157, .inr (.inl (vp_updL f_cw (p0 / 64).toNatClampNeg ((f_cw (p0 / 64).toNatClampNeg) ||| ((1 : Int64) <<< ((p0 - p0 / 64 * 64).toInt64 &&& 63)))))))]) [0, 1] rfl
      have hD9 := hD.sub (ws' := [(a_cd, .inr (1, [.ref a_cw])), (a_cw, .inl (k_cw, 157, .inr (.inl (vp_updL f_cw (p0 / 64).toNatClampNeg ((f_cw (p0 / 64).toNatClampNeg) ||| ((1 : Int64) <<< ((p0 - p0 / 64 * 64).toInt64 &&& 63)))))))]) [0, 1] (by decide) rfl
      have hK9 := hK.sub (tys' := [(k_cw, .long)]) [0] rfl
      exact W.vret hx hb hr (fun t ht hW => ⟨⟨(), rfl, trivial, by rw [ht, ← hz, hE]; exact hP9, va_K.moved hW.alike hK9, by rw [← hz, hE]; exact hD9⟩, hS.F ht⟩) hS.2.2 d_D_put_52
  · rw [if_pos c_3] at hE
    have hP9 := hP.sub (ws' := [(a_cd, .inr (1, [.ref a_cw])), (a_cw, .inl (k_cw, 157, .inr (.inl f_cw)))]) [0, 1] rfl
    have hD9 := hD.sub (ws' := [(a_cd, .inr (1, [.ref a_cw])), (a_cw, .inl (k_cw, 157, .inr (.inl f_cw)))]) [0, 1] (by decide) rfl
    have hK9 := hK.sub (tys' := [(k_cw, .long)]) [0] rfl
    exact W.vret hx hb hr (fun t ht hW => ⟨⟨(), rfl, trivial, by rw [ht, ← hz, hE]; exact hP9, va_K.moved hW.alike hK9, by rw [← hz, hE]; exact hD9⟩, hS.F ht⟩) hS.2.2 d_D_put_7
def gl_first : Nat → (Int32) → (Nat → Int64) → (Int32) → (Int64) → Nat × Int32 × Int64
  | 0, p1, f_cw, x, nh => (0, x, nh)
  | n + 1, p1, f_cw, x, nh =>
    if 10000 ≤ x then
      (0, x, nh)
    else
      if (lg_cmp (f_cw (x / 64).toNatClampNeg) nh) = 0 then
        gl_first n p1 f_cw ((x ||| 63) + 1) nh
      else
        if (g_Cg_holds x f_cw) = p1 then
          (1, x, nh)
        else
          gl_first n p1 f_cw (x + 1) nh
def g_Cg_firstFrom (p0 : Int32) (p1 : Int32) (f_cw : Nat → Int64) : Int32 :=
  if p1 = 0 then
    bv (gl_first 20001 p1 f_cw (if p0 < 0 then 0 else p0) (-1)) (fun x_2 =>
      if x_2.1 = 0 then
        (-1)
      else
        x_2.2.1)
  else
    bv (gl_first 20001 p1 f_cw (if p0 < 0 then 0 else p0) 0) (fun x_9 =>
      if x_9.1 = 0 then
        (-1)
      else
        x_9.2.1)
set_option maxHeartbeats 4000000 in
set_option maxRecDepth 100000 in
theorem c_Cg_firstFrom (l : Launch) (dC : Nat → ClassId) (dI : Nat → Nat → Nat) (adK adV : Nat → Nat) (a_cd : Nat) (a_cw : Nat) (k_cw : ClassId) (p0 : Int32) (p1 : Int32) (f_cw : Nat → Int64) (hp0 : p0.toInt < 20000) : Met l y_D_firstFrom ws_D_firstFrom ({ frames := 2, cells := 0, slots := 0, locals := 41 }) (va_Pc [.ref a_cd, .int p0, .int p1] (fun U => zz adK adV (fun _ => False) U ∧ va_P (dC, dI) vwCl [(a_cd, .inr (1, [.ref a_cw])), (a_cw, .inl (k_cw, 157, .inr (.inl f_cw)))] U.heap ∧ va_K (dC, dI) vwCl [(k_cw, .long)] U)) (vp_Si (fun r => r = g_Cg_firstFrom p0 p1 f_cw)) 0 0 (fun _ => False) := by
  refine Met.ofW (cc := c_D_firstFrom) (maxL := 6) (ret := (some .int)) (by decide) rfl ?_
  intro p e s m args below meth c s₁ B hml hv
  obtain ⟨rfl, hZ, hP, hK⟩ := hv
  have hx := B.exec
  have hb := B.bytes
  have hr := B.returns
  have hts0 := atoms_spec (ws := ws_D_firstFrom) B.pre
  have hts : ∀ w ∈ TT, w.before _ s = true := fun w h => hts0 w (List.mem_cons_of_mem _ h)
  have hown : s.vm.findClass "LoanRules$DaySet" = some m.cls := findClass_of_methodNamed B.named
  have hlocks := B.notSynchronized
  have hS : va_S (fun _ => False) s.heap s.heap [] := va_S.rf
  replace hP : va_P (dC, dI) vwCl [(a_cd, .inr (1, [.ref a_cw])), (a_cw, .inl (k_cw, 157, .inr (.inl f_cw)))] s.heap := hP
  have hl := lv_entry ([.ref a_cd, .int p0, .int p1]) (n := 6) (Nat.le_of_ble_eq_true rfl)
  rw [lg_entry_eq]
  generalize (lg_sl ([.ref a_cd, .int p0, .int p1]) ++ List.replicate (6 - (lg_sl ([.ref a_cd, .int p0, .int p1])).length) Slot.unset).toArray = ls at hl ⊢
  replace hl : lv_has ls 6 [(0, .ref a_cd), (1, .int p0), (2, .int p1)] := hl
  obtain ⟨z, hz⟩ : ∃ z, z = g_Cg_firstFrom p0 p1 f_cw := ⟨_, rfl⟩
  have hE := hz
  rw [g_Cg_firstFrom] at hE
  refine lv_iload_n hx hb d_D_firstFrom_0 rfl (lv_at hl 2 rfl) ?_
  refine lv_if_eq (tgt := 8) hx hb d_D_firstFrom_1 (by decide) (fun c_1 => ?_) (fun c_1 => ?_)
  · rw [if_pos c_1] at hE
    refine lv_ldc2 (v := (-1)) hx hb hown (hts _ tw_364) d_D_firstFrom_8 ?_
    refine lv_lstore_n (lv' := [(3, .long (-1)), (0, .ref a_cd), (1, .int p0), (2, .int p1)]) hx hb d_D_firstFrom_11 rfl hl (by decide) rfl (fun ls hl => ?_)
    refine lv_iload_n hx hb d_D_firstFrom_12 rfl (lv_at hl 2 rfl) ?_
    refine lv_iconst (v := 0) hx hb d_D_firstFrom_13 (by decide) ?_
    refine va_mmax hx hb (by rw [hml]; exact hl.1.symm) hown (hts _ tw_407) (hts _ tw_408) (hts _ tw_56) (hts _ tw_409) (Nat.le_of_ble_eq_true rfl) (Nat.le_of_ble_eq_true rfl) (Nat.le_of_ble_eq_true rfl) (Nat.le_of_ble_eq_true rfl) d_D_firstFrom_14 ?_
    refine lv_istore (lv' := [(5, .int (if p0 < 0 then 0 else p0)), (3, .long (-1)), (0, .ref a_cd), (1, .int p0), (2, .int p1)]) hx hb d_D_firstFrom_17 hl (by decide) rfl (fun ls hl => ?_)
    generalize hg_x_2 : gl_first 20001 p1 f_cw (if p0 < 0 then 0 else p0) (-1) = x_2 at hE
    rw [bv_eq] at hE
    obtain ⟨x, e_x⟩ : ∃ q9 : Int32, q9 = if p0 < 0 then 0 else p0 := ⟨_, rfl⟩
    obtain ⟨nh, e_nh⟩ : ∃ q9 : Int64, q9 = (-1) := ⟨_, rfl⟩
    obtain ⟨n, e_n⟩ : ∃ q9 : Nat, q9 = 20001 := ⟨_, rfl⟩
    have hAll : va_P (dC, dI) vwCl [(a_cd, .inr (1, [.ref a_cw])), (a_cw, .inl (k_cw, 157, .inr (.inl f_cw)))] s.heap ∧ lv_has ls 6 [(5, .int x), (3, .long nh), (0, .ref a_cd), (1, .int p0), (2, .int p1)] ∧ (0 ≤ x.toInt ∧ x.toInt < 20000) ∧ 20001 - x.toInt.toNat ≤ n ∧ gl_first n p1 f_cw x nh = x_2 := by
      subst e_x e_nh e_n
      exact ⟨hP, hl, li_max hp0, by have := li_max hp0; omega, hg_x_2⟩
    clear hP hl e_x e_nh e_n hg_x_2
    induction n generalizing x nh ls with
    | zero =>
      obtain ⟨hP, hl, hx0, hm_first, hg_first⟩ := hAll
      exfalso; omega
    | succ n ih_first =>
      obtain ⟨hP, hl, hx0, hm_first, hg_first⟩ := hAll
      rw [gl_first] at hg_first
      refine lv_iload hx hb d_D_firstFrom_19 (lv_at hl 0 rfl) ?_
      refine lv_sipush (v := 10000) hx hb d_D_firstFrom_21 (by decide) ?_
      refine lv_icmp_ge (tgt := 73) hx hb d_D_firstFrom_24 (by decide) (fun c_3 => ?_) (fun c_3 => ?_)
      · rw [if_pos c_3] at hg_first
        subst hg_first
        dsimp only at hE
        rw [if_pos rfl] at hE
        refine lv_iconst (v := (-1)) hx hb d_D_firstFrom_73 (by decide) ?_
        exact W.iret (v := (-1)) hx hb hr (fun t ht hW => ⟨(-1), rfl, hE.symm.trans hz, ht⟩) (fun _ h => by cases h) d_D_firstFrom_74
      · rw [if_neg c_3] at hg_first
        refine lv_aload_n hx hb d_D_firstFrom_27 rfl (lv_at hl 2 rfl) ?_
        refine va_get (D := (dC, dI)) (ci := 1) (v := .ref a_cw) (C := "LoanRules$DaySet") (T := Fz_D) (N := 1) hx hb hts it_D hown hK hP 0 rfl rfl 0 (by decide) (hts _ tw_94) (fun _ h9 => h9) rfl d_D_firstFrom_28 ?_
        refine lv_iload hx hb d_D_firstFrom_31 (lv_at hl 0 rfl) ?_
        refine lv_bipush (v := 64) hx hb d_D_firstFrom_33 (by decide) ?_
        refine lv_idiv hx hb d_D_firstFrom_35 (by decide) ?_
        have i_4 : vp_in (x / 64) 157 := in64 (li_d hx0 c_3)
        refine va_lald (D := (dC, dI)) hx hb hK hP 1 0 rfl rfl i_4 d_D_firstFrom_36 ?_
        refine lv_lload_n hx hb d_D_firstFrom_37 rfl (lv_at hl 1 rfl) ?_
        refine W.lcmp hx hb d_D_firstFrom_38 ?_
        refine lv_if_ne (tgt := 54) hx hb d_D_firstFrom_39 (by decide) (fun c_5 => ?_) (fun c_5 => ?_)
        · rw [if_neg c_5] at hg_first
          refine lv_aload_n hx hb d_D_firstFrom_54 rfl (lv_at hl 2 rfl) ?_
          refine lv_iload hx hb d_D_firstFrom_55 (lv_at hl 0 rfl) ?_
          have hPc := hP.sub (ws' := [(a_cd, .inr (1, [.ref a_cw])), (a_cw, .inl (k_cw, 157, .inr (.inl f_cw)))]) [0, 1] rfl
          have hKc := hK.sub (tys' := [(k_cw, .long)]) [0] rfl
          refine vp_callSi (va_Run.run (va_runV (As := [.int x]) (rest := []) ⟨hx, hb, hml, hown, hts⟩ (c_Cg_holds l dC dI adK adV (a_cd := a_cd) (p0 := x) (a_cw := a_cw) (k_cw := k_cw) (f_cw := f_cw)) (cwV 1 hts (gV tw_410 tw_356 tw_357 tw_44 tw_358) rfl rfl rfl (by decide +kernel) ⟨(Nat.le_of_ble_eq_true rfl), (Nat.le_of_ble_eq_true rfl)⟩) ⟨fun a U g mk q => by obtain ⟨q0, qZ, qP, qK⟩ := q; exact ⟨q0, zz_call qZ, qP, va_K.moved (u := U) (U := U.calling g mk a) (Vm.Alike.refl U.vm) qK⟩, va_recv hKc hPc (ci := 1) (q0 := 0) rfl rfl, fun U hU hW => ⟨rfl, zz_rr hU hW hZ, by rw [hU]; exact hPc, va_K.moved hW.alike hKc⟩⟩ rfl rfl hl.1 rfl (lv_room (Nat.le_of_ble_eq_true rfl)) d_D_firstFrom_57 ⟨(Nat.le_of_ble_eq_true rfl), (Nat.le_of_ble_eq_true rfl)⟩)) (fun r_6 hw_7 => ?_)
          clear hPc hKc
          subst hw_7
          refine lv_iload_n hx hb d_D_firstFrom_60 rfl (lv_at hl 4 rfl) ?_
          refine lv_icmp_ne (tgt := 67) hx hb d_D_firstFrom_61 (by decide) (fun c_8 => ?_) (fun c_8 => ?_)
          · rw [if_neg c_8] at hg_first
            refine lv_iinc (v := x + 1) (lv' := [(5, .int (x + 1)), (3, .long nh), (0, .ref a_cd), (1, .int p0), (2, .int p1)]) hx hb d_D_firstFrom_67 hl (k := 0) rfl rfl (by decide) rfl (fun ls hl => ?_)
            refine lv_goto (tgt := 19) hx hb d_D_firstFrom_70 (by decide) ?_
            exact ih_first _ _ _ ⟨hP, lv_sub hl [0, 1, 2, 3, 4] rfl, ((fun _ => li_s0 hx0 c_3) c_8), ((fun _ => li_m0 hx0 c_3 hm_first) c_8), hg_first⟩
          · rw [if_pos c_8] at hg_first
            subst hg_first
            dsimp only at hE
            rw [if_neg (by decide)] at hE
            refine lv_iload hx hb d_D_firstFrom_64 (lv_at hl 0 rfl) ?_
            exact W.iret (v := x) hx hb hr (fun t ht hW => ⟨x, rfl, hE.symm.trans hz, ht⟩) (fun _ h => by cases h) d_D_firstFrom_66
        · rw [if_pos c_5] at hg_first
          refine lv_iload hx hb d_D_firstFrom_42 (lv_at hl 0 rfl) ?_
          refine lv_bipush (v := 63) hx hb d_D_firstFrom_44 (by decide) ?_
          refine lv_ior hx hb d_D_firstFrom_46 ?_
          refine lv_iconst (v := 1) hx hb d_D_firstFrom_47 (by decide) ?_
          refine lv_iadd hx hb d_D_firstFrom_48 ?_
          refine lv_istore (lv' := [(5, .int ((x ||| 63) + 1)), (3, .long nh), (0, .ref a_cd), (1, .int p0), (2, .int p1)]) hx hb d_D_firstFrom_49 hl (by decide) rfl (fun ls hl => ?_)
          refine lv_goto (tgt := 19) hx hb d_D_firstFrom_51 (by decide) ?_
          exact ih_first _ _ _ ⟨hP, lv_sub hl [0, 1, 2, 3, 4] rfl, (li_so hx0 c_3), (li_mo hx0 c_3 hm_first), hg_first⟩
  · rw [if_neg c_1] at hE
    refine lv_lconst (v := 0) hx hb d_D_firstFrom_4 rfl ?_
    refine lv_goto (tgt := 11) hx hb d_D_firstFrom_5 (by decide) ?_
    refine lv_lstore_n (lv' := [(3, .long 0), (0, .ref a_cd), (1, .int p0), (2, .int p1)]) hx hb d_D_firstFrom_11 rfl hl (by decide) rfl (fun ls hl => ?_)
    refine lv_iload_n hx hb d_D_firstFrom_12 rfl (lv_at hl 2 rfl) ?_
    refine lv_iconst (v := 0) hx hb d_D_firstFrom_13 (by decide) ?_
    refine va_mmax hx hb (by rw [hml]; exact hl.1.symm) hown (hts _ tw_407) (hts _ tw_408) (hts _ tw_56) (hts _ tw_409) (Nat.le_of_ble_eq_true rfl) (Nat.le_of_ble_eq_true rfl) (Nat.le_of_ble_eq_true rfl) (Nat.le_of_ble_eq_true rfl) d_D_firstFrom_14 ?_
    refine lv_istore (lv' := [(5, .int (if p0 < 0 then 0 else p0)), (3, .long 0), (0, .ref a_cd), (1, .int p0), (2, .int p1)]) hx hb d_D_firstFrom_17 hl (by decide) rfl (fun ls hl => ?_)
    generalize hg_x_9 : gl_first 20001 p1 f_cw (if p0 < 0 then 0 else p0) 0 = x_9 at hE
    rw [bv_eq] at hE
    obtain ⟨x, e_x⟩ : ∃ q9 : Int32, q9 = if p0 < 0 then 0 else p0 := ⟨_, rfl⟩
    obtain ⟨nh, e_nh⟩ : ∃ q9 : Int64, q9 = 0 := ⟨_, rfl⟩
    obtain ⟨n, e_n⟩ : ∃ q9 : Nat, q9 = 20001 := ⟨_, rfl⟩
    have hAll : va_P (dC, dI) vwCl [(a_cd, .inr (1, [.ref a_cw])), (a_cw, .inl (k_cw, 157, .inr (.inl f_cw)))] s.heap ∧ lv_has ls 6 [(5, .int x), (3, .long nh), (0, .ref a_cd), (1, .int p0), (2, .int p1)] ∧ (0 ≤ x.toInt ∧ x.toInt < 20000) ∧ 20001 - x.toInt.toNat ≤ n ∧ gl_first n p1 f_cw x nh = x_9 := by
      subst e_x e_nh e_n
      exact ⟨hP, hl, li_max hp0, by have := li_max hp0; omega, hg_x_9⟩
    clear hP hl e_x e_nh e_n hg_x_9
    induction n generalizing x nh ls with
    | zero =>
      obtain ⟨hP, hl, hx0, hm_first, hg_first⟩ := hAll
      exfalso; omega
    | succ n ih_first =>
      obtain ⟨hP, hl, hx0, hm_first, hg_first⟩ := hAll
      rw [gl_first] at hg_first
      refine lv_iload hx hb d_D_firstFrom_19 (lv_at hl 0 rfl) ?_
      refine lv_sipush (v := 10000) hx hb d_D_firstFrom_21 (by decide) ?_
      refine lv_icmp_ge (tgt := 73) hx hb d_D_firstFrom_24 (by decide) (fun c_10 => ?_) (fun c_10 => ?_)
      · rw [if_pos c_10] at hg_first
        subst hg_first
        dsimp only at hE
        rw [if_pos rfl] at hE
        refine lv_iconst (v := (-1)) hx hb d_D_firstFrom_73 (by decide) ?_
        exact W.iret (v := (-1)) hx hb hr (fun t ht hW => ⟨(-1), rfl, hE.symm.trans hz, ht⟩) (fun _ h => by cases h) d_D_firstFrom_74
      · rw [if_neg c_10] at hg_first
        refine lv_aload_n hx hb d_D_firstFrom_27 rfl (lv_at hl 2 rfl) ?_
        refine va_get (D := (dC, dI)) (ci := 1) (v := .ref a_cw) (C := "LoanRules$DaySet") (T := Fz_D) (N := 1) hx hb hts it_D hown hK hP 0 rfl rfl 0 (by decide) (hts _ tw_94) (fun _ h9 => h9) rfl d_D_firstFrom_28 ?_
        refine lv_iload hx hb d_D_firstFrom_31 (lv_at hl 0 rfl) ?_
        refine lv_bipush (v := 64) hx hb d_D_firstFrom_33 (by decide) ?_
        refine lv_idiv hx hb d_D_firstFrom_35 (by decide) ?_
        have i_11 : vp_in (x / 64) 157 := in64 (li_d hx0 c_10)
        refine va_lald (D := (dC, dI)) hx hb hK hP 1 0 rfl rfl i_11 d_D_firstFrom_36 ?_
        refine lv_lload_n hx hb d_D_firstFrom_37 rfl (lv_at hl 1 rfl) ?_
        refine W.lcmp hx hb d_D_firstFrom_38 ?_
        refine lv_if_ne (tgt := 54) hx hb d_D_firstFrom_39 (by decide) (fun c_12 => ?_) (fun c_12 => ?_)
        · rw [if_neg c_12] at hg_first
          refine lv_aload_n hx hb d_D_firstFrom_54 rfl (lv_at hl 2 rfl) ?_
          refine lv_iload hx hb d_D_firstFrom_55 (lv_at hl 0 rfl) ?_
          have hPc := hP.sub (ws' := [(a_cd, .inr (1, [.ref a_cw])), (a_cw, .inl (k_cw, 157, .inr (.inl f_cw)))]) [0, 1] rfl
          have hKc := hK.sub (tys' := [(k_cw, .long)]) [0] rfl
          refine vp_callSi (va_Run.run (va_runV (As := [.int x]) (rest := []) ⟨hx, hb, hml, hown, hts⟩ (c_Cg_holds l dC dI adK adV (a_cd := a_cd) (p0 := x) (a_cw := a_cw) (k_cw := k_cw) (f_cw := f_cw)) (cwV 1 hts (gV tw_410 tw_356 tw_357 tw_44 tw_358) rfl rfl rfl (by decide +kernel) ⟨(Nat.le_of_ble_eq_true rfl), (Nat.le_of_ble_eq_true rfl)⟩) ⟨fun a U g mk q => by obtain ⟨q0, qZ, qP, qK⟩ := q; exact ⟨q0, zz_call qZ, qP, va_K.moved (u := U) (U := U.calling g mk a) (Vm.Alike.refl U.vm) qK⟩, va_recv hKc hPc (ci := 1) (q0 := 0) rfl rfl, fun U hU hW => ⟨rfl, zz_rr hU hW hZ, by rw [hU]; exact hPc, va_K.moved hW.alike hKc⟩⟩ rfl rfl hl.1 rfl (lv_room (Nat.le_of_ble_eq_true rfl)) d_D_firstFrom_57 ⟨(Nat.le_of_ble_eq_true rfl), (Nat.le_of_ble_eq_true rfl)⟩)) (fun r_13 hw_14 => ?_)
          clear hPc hKc
          subst hw_14
          refine lv_iload_n hx hb d_D_firstFrom_60 rfl (lv_at hl 4 rfl) ?_
          refine lv_icmp_ne (tgt := 67) hx hb d_D_firstFrom_61 (by decide) (fun c_15 => ?_) (fun c_15 => ?_)
          · rw [if_neg c_15] at hg_first
            refine lv_iinc (v := x + 1) (lv' := [(5, .int (x + 1)), (3, .long nh), (0, .ref a_cd), (1, .int p0), (2, .int p1)]) hx hb d_D_firstFrom_67 hl (k := 0) rfl rfl (by decide) rfl (fun ls hl => ?_)
            refine lv_goto (tgt := 19) hx hb d_D_firstFrom_70 (by decide) ?_
            exact ih_first _ _ _ ⟨hP, lv_sub hl [0, 1, 2, 3, 4] rfl, ((fun _ => li_s0 hx0 c_10) c_15), ((fun _ => li_m0 hx0 c_10 hm_first) c_15), hg_first⟩
          · rw [if_pos c_15] at hg_first
            subst hg_first
            dsimp only at hE
            rw [if_neg (by decide)] at hE
            refine lv_iload hx hb d_D_firstFrom_64 (lv_at hl 0 rfl) ?_
            exact W.iret (v := x) hx hb hr (fun t ht hW => ⟨x, rfl, hE.symm.trans hz, ht⟩) (fun _ h => by cases h) d_D_firstFrom_66
        · rw [if_pos c_12] at hg_first
          refine lv_iload hx hb d_D_firstFrom_42 (lv_at hl 0 rfl) ?_
          refine lv_bipush (v := 63) hx hb d_D_firstFrom_44 (by decide) ?_
          refine lv_ior hx hb d_D_firstFrom_46 ?_
          refine lv_iconst (v := 1) hx hb d_D_firstFrom_47 (by decide) ?_
          refine lv_iadd hx hb d_D_firstFrom_48 ?_
          refine lv_istore (lv' := [(5, .int ((x ||| 63) + 1)), (3, .long nh), (0, .ref a_cd), (1, .int p0), (2, .int p1)]) hx hb d_D_firstFrom_49 hl (by decide) rfl (fun ls hl => ?_)
          refine lv_goto (tgt := 19) hx hb d_D_firstFrom_51 (by decide) ?_
          exact ih_first _ _ _ ⟨hP, lv_sub hl [0, 1, 2, 3, 4] rfl, (li_so hx0 c_10), (li_mo hx0 c_10 hm_first), hg_first⟩
def g_Cg_isLetter (p0 : Int32) : Int32 :=
  if p0 < 97 then
    if p0 < 65 then
      0
    else
      if 90 < p0 then
        0
      else
        1
  else
    if p0 ≤ 122 then
      1
    else
      if p0 < 65 then
        0
      else
        if 90 < p0 then
          0
        else
          1
set_option maxHeartbeats 4000000 in
set_option maxRecDepth 100000 in
theorem c_Cg_isLetter (l : Launch) (dC : Nat → ClassId) (dI : Nat → Nat → Nat) (adK adV : Nat → Nat) (p0 : Int32) : Met l y_T_isLetter ws_T_isLetter ({ frames := 0, cells := 0, slots := 0, locals := 0 }) (va_Pc [.int p0] (fun U => zz adK adV (fun _ => False) U ∧ va_P (dC, dI) vwCl [] U.heap ∧ va_K (dC, dI) vwCl [] U)) (vp_Si (fun r => r = g_Cg_isLetter p0)) 0 0 (fun _ => False) := by
  refine Met.ofW (cc := c_T_isLetter) (maxL := 1) (ret := (some .boolean)) (by decide) rfl ?_
  intro p e s m args below meth c s₁ B hml hv
  obtain ⟨rfl, hZ, hP, hK⟩ := hv
  have hx := B.exec
  have hb := B.bytes
  have hr := B.returns
  have hts0 := atoms_spec (ws := ws_T_isLetter) B.pre
  have hts : ∀ w ∈ TT, w.before _ s = true := fun w h => hts0 w (List.mem_cons_of_mem _ h)
  have hown : s.vm.findClass "LoanRules$RuleText" = some m.cls := findClass_of_methodNamed B.named
  have hlocks := B.notSynchronized
  have hS : va_S (fun _ => False) s.heap s.heap [] := va_S.rf
  replace hP : va_P (dC, dI) vwCl [] s.heap := hP
  have hl := lv_entry ([.int p0]) (n := 1) (Nat.le_of_ble_eq_true rfl)
  rw [lg_entry_eq]
  generalize (lg_sl ([.int p0]) ++ List.replicate (1 - (lg_sl ([.int p0])).length) Slot.unset).toArray = ls at hl ⊢
  replace hl : lv_has ls 1 [(0, .int p0)] := hl
  obtain ⟨z, hz⟩ : ∃ z, z = g_Cg_isLetter p0 := ⟨_, rfl⟩
  have hE := hz
  rw [g_Cg_isLetter] at hE
  refine lv_iload_n hx hb d_T_isLetter_0 rfl (lv_at hl 0 rfl) ?_
  refine lv_bipush (v := 97) hx hb d_T_isLetter_1 (by decide) ?_
  refine lv_icmp_lt (tgt := 12) hx hb d_T_isLetter_3 (by decide) (fun c_1 => ?_) (fun c_1 => ?_)
  · rw [if_pos c_1] at hE
    refine lv_iload_n hx hb d_T_isLetter_12 rfl (lv_at hl 0 rfl) ?_
    refine lv_bipush (v := 65) hx hb d_T_isLetter_13 (by decide) ?_
    refine lv_icmp_lt (tgt := 28) hx hb d_T_isLetter_15 (by decide) (fun c_2 => ?_) (fun c_2 => ?_)
    · rw [if_pos c_2] at hE
      refine lv_iconst (v := 0) hx hb d_T_isLetter_28 (by decide) ?_
      exact W.zret (v := 0) hx hb hr rfl (fun t ht hW => ⟨0, rfl, hE.symm.trans hz, ht⟩) (fun _ h => by cases h) d_T_isLetter_29
    · rw [if_neg c_2] at hE
      refine lv_iload_n hx hb d_T_isLetter_18 rfl (lv_at hl 0 rfl) ?_
      refine lv_bipush (v := 90) hx hb d_T_isLetter_19 (by decide) ?_
      refine lv_icmp_gt (tgt := 28) hx hb d_T_isLetter_21 (by decide) (fun c_3 => ?_) (fun c_3 => ?_)
      · rw [if_pos c_3] at hE
        refine lv_iconst (v := 0) hx hb d_T_isLetter_28 (by decide) ?_
        exact W.zret (v := 0) hx hb hr rfl (fun t ht hW => ⟨0, rfl, hE.symm.trans hz, ht⟩) (fun _ h => by cases h) d_T_isLetter_29
      · rw [if_neg c_3] at hE
        refine lv_iconst (v := 1) hx hb d_T_isLetter_24 (by decide) ?_
        refine lv_goto (tgt := 29) hx hb d_T_isLetter_25 (by decide) ?_
        exact W.zret (v := 1) hx hb hr rfl (fun t ht hW => ⟨1, rfl, hE.symm.trans hz, ht⟩) (fun _ h => by cases h) d_T_isLetter_29
  · rw [if_neg c_1] at hE
    refine lv_iload_n hx hb d_T_isLetter_6 rfl (lv_at hl 0 rfl) ?_
    refine lv_bipush (v := 122) hx hb d_T_isLetter_7 (by decide) ?_
    refine lv_icmp_le (tgt := 24) hx hb d_T_isLetter_9 (by decide) (fun c_4 => ?_) (fun c_4 => ?_)
    · rw [if_pos c_4] at hE
      refine lv_iconst (v := 1) hx hb d_T_isLetter_24 (by decide) ?_
      refine lv_goto (tgt := 29) hx hb d_T_isLetter_25 (by decide) ?_
      exact W.zret (v := 1) hx hb hr rfl (fun t ht hW => ⟨1, rfl, hE.symm.trans hz, ht⟩) (fun _ h => by cases h) d_T_isLetter_29
    · rw [if_neg c_4] at hE
      refine lv_iload_n hx hb d_T_isLetter_12 rfl (lv_at hl 0 rfl) ?_
      refine lv_bipush (v := 65) hx hb d_T_isLetter_13 (by decide) ?_
      refine lv_icmp_lt (tgt := 28) hx hb d_T_isLetter_15 (by decide) (fun c_5 => ?_) (fun c_5 => ?_)
      · rw [if_pos c_5] at hE
        refine lv_iconst (v := 0) hx hb d_T_isLetter_28 (by decide) ?_
        exact W.zret (v := 0) hx hb hr rfl (fun t ht hW => ⟨0, rfl, hE.symm.trans hz, ht⟩) (fun _ h => by cases h) d_T_isLetter_29
      · rw [if_neg c_5] at hE
        refine lv_iload_n hx hb d_T_isLetter_18 rfl (lv_at hl 0 rfl) ?_
        refine lv_bipush (v := 90) hx hb d_T_isLetter_19 (by decide) ?_
        refine lv_icmp_gt (tgt := 28) hx hb d_T_isLetter_21 (by decide) (fun c_6 => ?_) (fun c_6 => ?_)
        · rw [if_pos c_6] at hE
          refine lv_iconst (v := 0) hx hb d_T_isLetter_28 (by decide) ?_
          exact W.zret (v := 0) hx hb hr rfl (fun t ht hW => ⟨0, rfl, hE.symm.trans hz, ht⟩) (fun _ h => by cases h) d_T_isLetter_29
        · rw [if_neg c_6] at hE
          refine lv_iconst (v := 1) hx hb d_T_isLetter_24 (by decide) ?_
          refine lv_goto (tgt := 29) hx hb d_T_isLetter_25 (by decide) ?_
          exact W.zret (v := 1) hx hb hr rfl (fun t ht hW => ⟨1, rfl, hE.symm.trans hz, ht⟩) (fun _ h => by cases h) d_T_isLetter_29
def g_Cg_isDigit (p0 : Int32) : Int32 :=
  if p0 < 48 then
    0
  else
    if 57 < p0 then
      0
    else
      1
set_option maxHeartbeats 4000000 in
set_option maxRecDepth 100000 in
theorem c_Cg_isDigit (l : Launch) (dC : Nat → ClassId) (dI : Nat → Nat → Nat) (adK adV : Nat → Nat) (p0 : Int32) : Met l y_T_isDigit ws_T_isDigit ({ frames := 0, cells := 0, slots := 0, locals := 0 }) (va_Pc [.int p0] (fun U => zz adK adV (fun _ => False) U ∧ va_P (dC, dI) vwCl [] U.heap ∧ va_K (dC, dI) vwCl [] U)) (vp_Si (fun r => r = g_Cg_isDigit p0)) 0 0 (fun _ => False) := by
  refine Met.ofW (cc := c_T_isDigit) (maxL := 1) (ret := (some .boolean)) (by decide) rfl ?_
  intro p e s m args below meth c s₁ B hml hv
  obtain ⟨rfl, hZ, hP, hK⟩ := hv
  have hx := B.exec
  have hb := B.bytes
  have hr := B.returns
  have hts0 := atoms_spec (ws := ws_T_isDigit) B.pre
  have hts : ∀ w ∈ TT, w.before _ s = true := fun w h => hts0 w (List.mem_cons_of_mem _ h)
  have hown : s.vm.findClass "LoanRules$RuleText" = some m.cls := findClass_of_methodNamed B.named
  have hlocks := B.notSynchronized
  have hS : va_S (fun _ => False) s.heap s.heap [] := va_S.rf
  replace hP : va_P (dC, dI) vwCl [] s.heap := hP
  have hl := lv_entry ([.int p0]) (n := 1) (Nat.le_of_ble_eq_true rfl)
  rw [lg_entry_eq]
  generalize (lg_sl ([.int p0]) ++ List.replicate (1 - (lg_sl ([.int p0])).length) Slot.unset).toArray = ls at hl ⊢
  replace hl : lv_has ls 1 [(0, .int p0)] := hl
  obtain ⟨z, hz⟩ : ∃ z, z = g_Cg_isDigit p0 := ⟨_, rfl⟩
  have hE := hz
  rw [g_Cg_isDigit] at hE
  refine lv_iload_n hx hb d_T_isDigit_0 rfl (lv_at hl 0 rfl) ?_
  refine lv_bipush (v := 48) hx hb d_T_isDigit_1 (by decide) ?_
  refine lv_icmp_lt (tgt := 16) hx hb d_T_isDigit_3 (by decide) (fun c_1 => ?_) (fun c_1 => ?_)
  · rw [if_pos c_1] at hE
    refine lv_iconst (v := 0) hx hb d_T_isDigit_16 (by decide) ?_
    exact W.zret (v := 0) hx hb hr rfl (fun t ht hW => ⟨0, rfl, hE.symm.trans hz, ht⟩) (fun _ h => by cases h) d_T_isDigit_17
  · rw [if_neg c_1] at hE
    refine lv_iload_n hx hb d_T_isDigit_6 rfl (lv_at hl 0 rfl) ?_
    refine lv_bipush (v := 57) hx hb d_T_isDigit_7 (by decide) ?_
    refine lv_icmp_gt (tgt := 16) hx hb d_T_isDigit_9 (by decide) (fun c_2 => ?_) (fun c_2 => ?_)
    · rw [if_pos c_2] at hE
      refine lv_iconst (v := 0) hx hb d_T_isDigit_16 (by decide) ?_
      exact W.zret (v := 0) hx hb hr rfl (fun t ht hW => ⟨0, rfl, hE.symm.trans hz, ht⟩) (fun _ h => by cases h) d_T_isDigit_17
    · rw [if_neg c_2] at hE
      refine lv_iconst (v := 1) hx hb d_T_isDigit_12 (by decide) ?_
      refine lv_goto (tgt := 17) hx hb d_T_isDigit_13 (by decide) ?_
      exact W.zret (v := 1) hx hb hr rfl (fun t ht hW => ⟨1, rfl, hE.symm.trans hz, ht⟩) (fun _ h => by cases h) d_T_isDigit_17
def g_Cg_collect (p0 : Int32) (w_ln : Int32) (f_sg : Nat → Int32) : Int32 × (Nat → Int32) :=
  if 120 ≤ w_ln then
    (w_ln, f_sg)
  else
    (w_ln + 1, upd f_sg w_ln.toNatClampNeg (vp_nar .char (((p0 &&& 255).toUInt32 % 65536).toInt32)))
set_option maxHeartbeats 4000000 in
set_option maxRecDepth 100000 in
theorem c_Cg_collect (l : Launch) (dC : Nat → ClassId) (dI : Nat → Nat → Nat) (adK adV : Nat → Nat) (a_tx : Nat) (a_sg : Nat) (k_sg : ClassId) (p0 : Int32) (w_ln : Int32) (w_pl : Int32) (w_wr : Int32) (f_sg : Nat → Int32) (sz : Nat) (hln : 0 ≤ w_ln.toInt ∧ w_ln.toInt ≤ 120) : Met l y_T_collect ws_T_collect ({ frames := 0, cells := 0, slots := 0, locals := 0 }) (va_Pc [.ref a_tx, .int p0] (fun U => U.heap.size = sz ∧ zz adK adV (va_A [(a_tx, .inr (4, [.ref a_sg, .int w_ln, .int w_pl, .int w_wr])), (a_sg, .inl (k_sg, 120, .inl f_sg))] sz) U ∧ va_P (dC, dI) vwCl [(a_tx, .inr (4, [.ref a_sg, .int w_ln, .int w_pl, .int w_wr])), (a_sg, .inl (k_sg, 120, .inl f_sg))] U.heap ∧ va_K (dC, dI) vwCl [(k_sg, .char)] U ∧ va_D (fun _ => True) [(a_tx, .inr (4, [.ref a_sg, .int w_ln, .int w_pl, .int w_wr])), (a_sg, .inl (k_sg, 120, .inl f_sg))])) (va_Qv (fun _ : Unit => True) (fun (_ : Unit) (t : State) => va_P (dC, dI) vwCl [(a_tx, .inr (4, [.ref a_sg, .int ((g_Cg_collect p0 w_ln f_sg).1), .int w_pl, .int w_wr])), (a_sg, .inl (k_sg, 120, .inl ((g_Cg_collect p0 w_ln f_sg).2)))] t.heap ∧ va_K (dC, dI) vwCl [(k_sg, .char)] t ∧ va_D (va_A [(a_tx, .inr (4, [.ref a_sg, .int w_ln, .int w_pl, .int w_wr])), (a_sg, .inl (k_sg, 120, .inl f_sg))] sz) [(a_tx, .inr (4, [.ref a_sg, .int ((g_Cg_collect p0 w_ln f_sg).1), .int w_pl, .int w_wr])), (a_sg, .inl (k_sg, 120, .inl ((g_Cg_collect p0 w_ln f_sg).2)))]) (va_A [(a_tx, .inr (4, [.ref a_sg, .int w_ln, .int w_pl, .int w_wr])), (a_sg, .inl (k_sg, 120, .inl f_sg))] sz)) 0 0 (va_A [(a_tx, .inr (4, [.ref a_sg, .int w_ln, .int w_pl, .int w_wr])), (a_sg, .inl (k_sg, 120, .inl f_sg))] sz) := by
  refine Met.ofW (cc := c_T_collect) (maxL := 2) (ret := none) (by decide) rfl ?_
  intro p e s m args below meth c s₁ B hml hv
  obtain ⟨rfl, hsz, hZ, hP, hK, hD0⟩ := hv
  have hx := B.exec
  have hb := B.bytes
  have hr := B.returns
  have hts0 := atoms_spec (ws := ws_T_collect) B.pre
  have hts : ∀ w ∈ TT, w.before _ s = true := fun w h => hts0 w (List.mem_cons_of_mem _ h)
  have hown : s.vm.findClass "LoanRules$RuleText" = some m.cls := findClass_of_methodNamed B.named
  have hlocks := B.notSynchronized
  subst hsz
  have hD := hD0.self (sz := s.heap.size)
  generalize hAe : va_A [(a_tx, .inr (4, [.ref a_sg, .int w_ln, .int w_pl, .int w_wr])), (a_sg, .inl (k_sg, 120, .inl f_sg))] s.heap.size = A at hD hZ ⊢
  have hA : ∀ q : Nat, s.heap.size ≤ q → A q := fun q h => by rw [← hAe]; exact Or.inr h
  clear hAe hD0
  have hS : va_S A s.heap s.heap [] := va_S.rf
  replace hP : va_P (dC, dI) vwCl [(a_tx, .inr (4, [.ref a_sg, .int w_ln, .int w_pl, .int w_wr])), (a_sg, .inl (k_sg, 120, .inl f_sg))] s.heap := hP
  have hl := lv_entry ([.ref a_tx, .int p0]) (n := 2) (Nat.le_of_ble_eq_true rfl)
  rw [lg_entry_eq]
  generalize (lg_sl ([.ref a_tx, .int p0]) ++ List.replicate (2 - (lg_sl ([.ref a_tx, .int p0])).length) Slot.unset).toArray = ls at hl ⊢
  replace hl : lv_has ls 2 [(0, .ref a_tx), (1, .int p0)] := hl
  obtain ⟨z, hz⟩ : ∃ z, z = g_Cg_collect p0 w_ln f_sg := ⟨_, rfl⟩
  have hE := hz
  rw [g_Cg_collect] at hE
  refine lv_aload_n hx hb d_T_collect_0 rfl (lv_at hl 0 rfl) ?_
  refine va_get (D := (dC, dI)) (ci := 4) (v := .int w_ln) (C := "LoanRules$RuleText") (T := Fz_T) (N := 4) hx hb hts it_T hown hK hP 0 rfl rfl 1 (by decide) (hts _ tw_73) (fun _ h9 => h9) rfl d_T_collect_1 ?_
  refine lv_aload_n hx hb d_T_collect_4 rfl (lv_at hl 0 rfl) ?_
  refine va_get (D := (dC, dI)) (ci := 4) (v := .ref a_sg) (C := "LoanRules$RuleText") (T := Fz_T) (N := 4) hx hb hts it_T hown hK hP 0 rfl rfl 0 (by decide) (hts _ tw_72) (fun _ h9 => h9) rfl d_T_collect_5 ?_
  refine va_alen (D := (dC, dI)) (v := 120) hx hb hK hP 1 0 rfl rfl rfl d_T_collect_8 ?_
  refine lv_icmp_ge (tgt := 37) hx hb d_T_collect_9 (by decide) (fun c_1 => ?_) (fun c_1 => ?_)
  · rw [if_pos c_1] at hE
    have hP9 := hP.sub (ws' := [(a_tx, .inr (4, [.ref a_sg, .int w_ln, .int w_pl, .int w_wr])), (a_sg, .inl (k_sg, 120, .inl f_sg))]) [0, 1] rfl
    have hD9 := hD.sub (ws' := [(a_tx, .inr (4, [.ref a_sg, .int w_ln, .int w_pl, .int w_wr])), (a_sg, .inl (k_sg, 120, .inl f_sg))]) [0, 1] (by decide) rfl
    have hK9 := hK.sub (tys' := [(k_sg, .char)]) [0] rfl
    exact W.vret hx hb hr (fun t ht hW => ⟨⟨(), rfl, trivial, by rw [ht, ← hz, hE]; exact hP9, va_K.moved hW.alike hK9, by rw [← hz, hE]; exact hD9⟩, hS.F ht⟩) hS.2.2 d_T_collect_37
  · rw [if_neg c_1] at hE
    refine lv_aload_n hx hb d_T_collect_12 rfl (lv_at hl 0 rfl) ?_
    refine va_get (D := (dC, dI)) (ci := 4) (v := .ref a_sg) (C := "LoanRules$RuleText") (T := Fz_T) (N := 4) hx hb hts it_T hown hK hP 0 rfl rfl 0 (by decide) (hts _ tw_72) (fun _ h9 => h9) rfl d_T_collect_13 ?_
    refine lv_aload_n hx hb d_T_collect_16 rfl (lv_at hl 0 rfl) ?_
    refine va_get (D := (dC, dI)) (ci := 4) (v := .int w_ln) (C := "LoanRules$RuleText") (T := Fz_T) (N := 4) hx hb hts it_T hown hK hP 0 rfl rfl 1 (by decide) (hts _ tw_73) (fun _ h9 => h9) rfl d_T_collect_17 ?_
    refine lv_iload_n hx hb d_T_collect_20 rfl (lv_at hl 1 rfl) ?_
    refine lv_sipush (v := 255) hx hb d_T_collect_21 (by decide) ?_
    refine lv_iand hx hb d_T_collect_24 ?_
    refine lv_i2c hx hb d_T_collect_25 rfl ?_
    have i_2 : vp_in w_ln 120 := li_in hln.1 c_1
    refine va_cast (D := (dC, dI)) hx hb hK hP hD hS 1 0 rfl rfl i_2 d_T_collect_26 (fun H locs hP hD hS => ?_)
    replace hP : va_P (dC, dI) vwCl [(a_tx, .inr (4, [.ref a_sg, .int w_ln, .int w_pl, .int w_wr])), (a_sg, .inl (k_sg, 120, .inl (upd f_sg w_ln.toNatClampNeg (vp_nar .char (((p0 &&& 255).toUInt32 % 65536).toInt32)))))] H := hP
    replace hD : va_D A [(a_tx, .inr (4, [.ref a_sg, .int w_ln, .int w_pl, .int w_wr])), (a_sg, .inl (k_sg, 120, .inl (upd f_sg w_ln.toNatClampNeg (vp_nar .char (((p0 &&& 255).toUInt32 % 65536).toInt32)))))] := hD
    refine lv_aload_n hx hb d_T_collect_27 rfl (lv_at hl 0 rfl) ?_
    refine lv_dup hx hb d_T_collect_28 rfl ?_
    refine va_get (D := (dC, dI)) (ci := 4) (v := .int w_ln) (C := "LoanRules$RuleText") (T := Fz_T) (N := 4) hx hb hts it_T hown hK hP 0 rfl rfl 1 (by decide) (hts _ tw_73) (fun _ h9 => h9) rfl d_T_collect_29 ?_
    refine lv_iconst (v := 1) hx hb d_T_collect_32 (by decide) ?_
    refine lv_iadd hx hb d_T_collect_33 ?_
    refine va_put (D := (dC, dI)) (ci := 4) (v := .int (w_ln + 1)) (ty := .int) (C := "LoanRules$RuleText") (T := Fz_T) (N := 4) hx hb hts it_T tz_T tz_T_ok nz_T hown hK hP hD hS 0 rfl rfl 1 (by decide) (hts _ tw_73) (fun _ h9 => h9) rfl (by decide +kernel) rfl rfl (Nat.le_of_ble_eq_true rfl) d_T_collect_34 (fun H locs hP hD hS => ?_)
    replace hP : va_P (dC, dI) vwCl [(a_tx, .inr (4, [.ref a_sg, .int (w_ln + 1), .int w_pl, .int w_wr])), (a_sg, .inl (k_sg, 120, .inl (upd f_sg w_ln.toNatClampNeg (vp_nar .char (((p0 &&& 255).toUInt32 % 65536).toInt32)))))] H := hP
    replace hD : va_D A [(a_tx, .inr (4, [.ref a_sg, .int (w_ln + 1), .int w_pl, .int w_wr])), (a_sg, .inl (k_sg, 120, .inl (upd f_sg w_ln.toNatClampNeg (vp_nar .char (((p0 &&& 255).toUInt32 % 65536).toInt32)))))] := hD
    have hP9 := hP.sub (ws' := [(a_tx, .inr (4, [.ref a_sg, .int (w_ln + 1), .int w_pl, .int w_wr])), (a_sg, .inl (k_sg, 120, .inl (upd f_sg w_ln.toNatClampNeg (vp_nar .char (((p0 &&& 255).toUInt32 % 65536).toInt32)))))]) [0, 1] rfl
    have hD9 := hD.sub (ws' := [(a_tx, .inr (4, [.ref a_sg, .int (w_ln + 1), .int w_pl, .int w_wr])), (a_sg, .inl (k_sg, 120, .inl (upd f_sg w_ln.toNatClampNeg (vp_nar .char (((p0 &&& 255).toUInt32 % 65536).toInt32)))))]) [0, 1] (by decide) rfl
    have hK9 := hK.sub (tys' := [(k_sg, .char)]) [0] rfl
    exact W.vret hx hb hr (fun t ht hW => ⟨⟨(), rfl, trivial, by rw [ht, ← hz, hE]; exact hP9, va_K.moved hW.alike hK9, by rw [← hz, hE]; exact hD9⟩, hS.F ht⟩) hS.2.2 d_T_collect_37
set_option maxHeartbeats 4000000 in
set_option maxRecDepth 100000 in
theorem c_Cg_forget (l : Launch) (dC : Nat → ClassId) (dI : Nat → Nat → Nat) (adK adV : Nat → Nat) (a_tx : Nat) (a_sg : Nat) (w_ln : Int32) (w_pl : Int32) (w_wr : Int32) (sz : Nat) : Met l y_T_forget ws_T_forget ({ frames := 0, cells := 0, slots := 0, locals := 0 }) (va_Pc [.ref a_tx] (fun U => U.heap.size = sz ∧ zz adK adV (va_A [(a_tx, .inr (4, [.ref a_sg, .int w_ln, .int w_pl, .int w_wr]))] sz) U ∧ va_P (dC, dI) vwCl [(a_tx, .inr (4, [.ref a_sg, .int w_ln, .int w_pl, .int w_wr]))] U.heap ∧ va_K (dC, dI) vwCl [] U ∧ va_D (fun _ => True) [(a_tx, .inr (4, [.ref a_sg, .int w_ln, .int w_pl, .int w_wr]))])) (va_Qv (fun _ : Unit => True) (fun (_ : Unit) (t : State) => va_P (dC, dI) vwCl [(a_tx, .inr (4, [.ref a_sg, .int 0, .int w_pl, .int w_wr]))] t.heap ∧ va_K (dC, dI) vwCl [] t ∧ va_D (va_A [(a_tx, .inr (4, [.ref a_sg, .int w_ln, .int w_pl, .int w_wr]))] sz) [(a_tx, .inr (4, [.ref a_sg, .int 0, .int w_pl, .int w_wr]))]) (va_A [(a_tx, .inr (4, [.ref a_sg, .int w_ln, .int w_pl, .int w_wr]))] sz)) 0 0 (va_A [(a_tx, .inr (4, [.ref a_sg, .int w_ln, .int w_pl, .int w_wr]))] sz) := by
  refine Met.ofW (cc := c_T_forget) (maxL := 1) (ret := none) (by decide) rfl ?_
  intro p e s m args below meth c s₁ B hml hv
  obtain ⟨rfl, hsz, hZ, hP, hK, hD0⟩ := hv
  have hx := B.exec
  have hb := B.bytes
  have hr := B.returns
  have hts0 := atoms_spec (ws := ws_T_forget) B.pre
  have hts : ∀ w ∈ TT, w.before _ s = true := fun w h => hts0 w (List.mem_cons_of_mem _ h)
  have hown : s.vm.findClass "LoanRules$RuleText" = some m.cls := findClass_of_methodNamed B.named
  have hlocks := B.notSynchronized
  subst hsz
  have hD := hD0.self (sz := s.heap.size)
  generalize hAe : va_A [(a_tx, .inr (4, [.ref a_sg, .int w_ln, .int w_pl, .int w_wr]))] s.heap.size = A at hD hZ ⊢
  have hA : ∀ q : Nat, s.heap.size ≤ q → A q := fun q h => by rw [← hAe]; exact Or.inr h
  clear hAe hD0
  have hS : va_S A s.heap s.heap [] := va_S.rf
  replace hP : va_P (dC, dI) vwCl [(a_tx, .inr (4, [.ref a_sg, .int w_ln, .int w_pl, .int w_wr]))] s.heap := hP
  have hl := lv_entry ([.ref a_tx]) (n := 1) (Nat.le_of_ble_eq_true rfl)
  rw [lg_entry_eq]
  generalize (lg_sl ([.ref a_tx]) ++ List.replicate (1 - (lg_sl ([.ref a_tx])).length) Slot.unset).toArray = ls at hl ⊢
  replace hl : lv_has ls 1 [(0, .ref a_tx)] := hl
  refine lv_aload_n hx hb d_T_forget_0 rfl (lv_at hl 0 rfl) ?_
  refine lv_iconst (v := 0) hx hb d_T_forget_1 (by decide) ?_
  refine va_put (D := (dC, dI)) (ci := 4) (v := .int 0) (ty := .int) (C := "LoanRules$RuleText") (T := Fz_T) (N := 4) hx hb hts it_T tz_T tz_T_ok nz_T hown hK hP hD hS 0 rfl rfl 1 (by decide) (hts _ tw_73) (fun _ h9 => h9) rfl (by decide +kernel) rfl rfl (Nat.le_of_ble_eq_true rfl) d_T_forget_2 (fun H locs hP hD hS => ?_)
  replace hP : va_P (dC, dI) vwCl [(a_tx, .inr (4, [.ref a_sg, .int 0, .int w_pl, .int w_wr]))] H := hP
  replace hD : va_D A [(a_tx, .inr (4, [.ref a_sg, .int 0, .int w_pl, .int w_wr]))] := hD
  have hP9 := hP.sub (ws' := [(a_tx, .inr (4, [.ref a_sg, .int 0, .int w_pl, .int w_wr]))]) [0] rfl
  have hD9 := hD.sub (ws' := [(a_tx, .inr (4, [.ref a_sg, .int 0, .int w_pl, .int w_wr]))]) [0] (by decide) rfl
  have hK9 := hK.sub (tys' := []) [] rfl
  exact W.vret hx hb hr (fun t ht hW => ⟨⟨(), rfl, trivial, by rw [ht]; exact hP9, va_K.moved hW.alike hK9, hD9⟩, hS.F ht⟩) hS.2.2 d_T_forget_5
def g_Cg_signAt (p0 : Int32) (w_ln : Int32) (f_sg : Nat → Int32) : Int32 :=
  if p0 < 0 then
    (-1)
  else
    if w_ln ≤ p0 then
      (-1)
    else
      if 120 ≤ p0 then
        (-1)
      else
        f_sg p0.toNatClampNeg
set_option maxHeartbeats 4000000 in
set_option maxRecDepth 100000 in
theorem c_Cg_signAt (l : Launch) (dC : Nat → ClassId) (dI : Nat → Nat → Nat) (adK adV : Nat → Nat) (a_tx : Nat) (a_sg : Nat) (k_sg : ClassId) (p0 : Int32) (w_ln : Int32) (w_pl : Int32) (w_wr : Int32) (f_sg : Nat → Int32) : Met l y_T_signAt ws_T_signAt ({ frames := 0, cells := 0, slots := 0, locals := 0 }) (va_Pc [.ref a_tx, .int p0] (fun U => zz adK adV (fun _ => False) U ∧ va_P (dC, dI) vwCl [(a_tx, .inr (4, [.ref a_sg, .int w_ln, .int w_pl, .int w_wr])), (a_sg, .inl (k_sg, 120, .inl f_sg))] U.heap ∧ va_K (dC, dI) vwCl [(k_sg, .char)] U)) (vp_Si (fun r => r = g_Cg_signAt p0 w_ln f_sg)) 0 0 (fun _ => False) := by
  refine Met.ofW (cc := c_T_signAt) (maxL := 2) (ret := (some .int)) (by decide) rfl ?_
  intro p e s m args below meth c s₁ B hml hv
  obtain ⟨rfl, hZ, hP, hK⟩ := hv
  have hx := B.exec
  have hb := B.bytes
  have hr := B.returns
  have hts0 := atoms_spec (ws := ws_T_signAt) B.pre
  have hts : ∀ w ∈ TT, w.before _ s = true := fun w h => hts0 w (List.mem_cons_of_mem _ h)
  have hown : s.vm.findClass "LoanRules$RuleText" = some m.cls := findClass_of_methodNamed B.named
  have hlocks := B.notSynchronized
  have hS : va_S (fun _ => False) s.heap s.heap [] := va_S.rf
  replace hP : va_P (dC, dI) vwCl [(a_tx, .inr (4, [.ref a_sg, .int w_ln, .int w_pl, .int w_wr])), (a_sg, .inl (k_sg, 120, .inl f_sg))] s.heap := hP
  have hl := lv_entry ([.ref a_tx, .int p0]) (n := 2) (Nat.le_of_ble_eq_true rfl)
  rw [lg_entry_eq]
  generalize (lg_sl ([.ref a_tx, .int p0]) ++ List.replicate (2 - (lg_sl ([.ref a_tx, .int p0])).length) Slot.unset).toArray = ls at hl ⊢
  replace hl : lv_has ls 2 [(0, .ref a_tx), (1, .int p0)] := hl
  obtain ⟨z, hz⟩ : ∃ z, z = g_Cg_signAt p0 w_ln f_sg := ⟨_, rfl⟩
  have hE := hz
  rw [g_Cg_signAt] at hE
  refine lv_iload_n hx hb d_T_signAt_0 rfl (lv_at hl 1 rfl) ?_
  refine lv_if_lt (tgt := 30) hx hb d_T_signAt_1 (by decide) (fun c_1 => ?_) (fun c_1 => ?_)
  · rw [if_pos c_1] at hE
    refine lv_iconst (v := (-1)) hx hb d_T_signAt_30 (by decide) ?_
    exact W.iret (v := (-1)) hx hb hr (fun t ht hW => ⟨(-1), rfl, hE.symm.trans hz, ht⟩) (fun _ h => by cases h) d_T_signAt_31
  · rw [if_neg c_1] at hE
    refine lv_iload_n hx hb d_T_signAt_4 rfl (lv_at hl 1 rfl) ?_
    refine lv_aload_n hx hb d_T_signAt_5 rfl (lv_at hl 0 rfl) ?_
    refine va_get (D := (dC, dI)) (ci := 4) (v := .int w_ln) (C := "LoanRules$RuleText") (T := Fz_T) (N := 4) hx hb hts it_T hown hK hP 0 rfl rfl 1 (by decide) (hts _ tw_73) (fun _ h9 => h9) rfl d_T_signAt_6 ?_
    refine lv_icmp_ge (tgt := 30) hx hb d_T_signAt_9 (by decide) (fun c_2 => ?_) (fun c_2 => ?_)
    · rw [if_pos c_2] at hE
      refine lv_iconst (v := (-1)) hx hb d_T_signAt_30 (by decide) ?_
      exact W.iret (v := (-1)) hx hb hr (fun t ht hW => ⟨(-1), rfl, hE.symm.trans hz, ht⟩) (fun _ h => by cases h) d_T_signAt_31
    · rw [if_neg c_2] at hE
      refine lv_iload_n hx hb d_T_signAt_12 rfl (lv_at hl 1 rfl) ?_
      refine lv_aload_n hx hb d_T_signAt_13 rfl (lv_at hl 0 rfl) ?_
      refine va_get (D := (dC, dI)) (ci := 4) (v := .ref a_sg) (C := "LoanRules$RuleText") (T := Fz_T) (N := 4) hx hb hts it_T hown hK hP 0 rfl rfl 0 (by decide) (hts _ tw_72) (fun _ h9 => h9) rfl d_T_signAt_14 ?_
      refine va_alen (D := (dC, dI)) (v := 120) hx hb hK hP 1 0 rfl rfl rfl d_T_signAt_17 ?_
      refine lv_icmp_ge (tgt := 30) hx hb d_T_signAt_18 (by decide) (fun c_3 => ?_) (fun c_3 => ?_)
      · rw [if_pos c_3] at hE
        refine lv_iconst (v := (-1)) hx hb d_T_signAt_30 (by decide) ?_
        exact W.iret (v := (-1)) hx hb hr (fun t ht hW => ⟨(-1), rfl, hE.symm.trans hz, ht⟩) (fun _ h => by cases h) d_T_signAt_31
      · rw [if_neg c_3] at hE
        refine lv_aload_n hx hb d_T_signAt_21 rfl (lv_at hl 0 rfl) ?_
        refine va_get (D := (dC, dI)) (ci := 4) (v := .ref a_sg) (C := "LoanRules$RuleText") (T := Fz_T) (N := 4) hx hb hts it_T hown hK hP 0 rfl rfl 0 (by decide) (hts _ tw_72) (fun _ h9 => h9) rfl d_T_signAt_22 ?_
        refine lv_iload_n hx hb d_T_signAt_25 rfl (lv_at hl 1 rfl) ?_
        have i_4 : vp_in p0 120 := li_in (li_n0 c_1) c_3
        refine va_cald (D := (dC, dI)) hx hb hK hP 1 0 rfl rfl i_4 d_T_signAt_26 ?_
        refine lv_goto (tgt := 31) hx hb d_T_signAt_27 (by decide) ?_
        exact W.iret (v := f_sg p0.toNatClampNeg) hx hb hr (fun t ht hW => ⟨f_sg p0.toNatClampNeg, rfl, hE.symm.trans hz, ht⟩) (fun _ h => by cases h) d_T_signAt_31
