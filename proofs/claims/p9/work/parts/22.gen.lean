set_option maxHeartbeats 4000000 in
set_option maxRecDepth 100000 in
theorem c_Cs_strlen (l : Launch) (dC : Nat → ClassId) (dI : Nat → Nat → Nat) (adK adV : Nat → Nat) (iw : Nat) (hiw : iw < nst) : Met l y_S_length ws_S_length ({ frames := 1, cells := 0, slots := 0, locals := 20 }) (va_Pc [.ref (adK iw)] (fun U => zz adK adV (fun _ => False) U ∧ va_P (dC, dI) vwCl [] U.heap ∧ va_K (dC, dI) vwCl [] U)) (vp_Si (fun r => r = nI (kz_len.getD iw 0))) 0 0 (fun _ => False) := by
  refine Met.ofW (cc := c_S_length) (maxL := 1) (ret := (some .int)) (by decide) rfl ?_
  intro p e s m args below meth c s₁ B hml hv
  obtain ⟨rfl, hZ, hP, hK⟩ := hv
  have hx := B.exec
  have hb := B.bytes
  have hr := B.returns
  have hts0 := atoms_spec (ws := ws_S_length) B.pre
  have hts : ∀ w ∈ TT, w.before _ s = true := fun w h => hts0 w (List.mem_cons_of_mem _ h)
  have hown : s.vm.findClass "java/lang/String" = some m.cls := findClass_of_methodNamed B.named
  have hlocks := B.notSynchronized
  have hS : va_S (fun _ => False) s.heap s.heap [] := va_S.rf
  replace hP : va_P (dC, dI) vwCl [] s.heap := hP
  have hl := lv_entry ([.ref (adK iw)]) (n := 1) (Nat.le_of_ble_eq_true rfl)
  rw [lg_entry_eq]
  generalize (lg_sl ([.ref (adK iw)]) ++ List.replicate (1 - (lg_sl ([.ref (adK iw)])).length) Slot.unset).toArray = ls at hl ⊢
  replace hl : lv_has ls 1 [(0, .ref (adK iw))] := hl
  refine lv_aload_n hx hb d_S_length_0 rfl (lv_at hl 0 rfl) ?_
  refine vk_getf (v := .ref (adV iw)) hx hb ((zz_S hZ).1 _ hiw).2.2.1 hS hown (hts _ tw_823) (fun _ h => h) d_S_length_1 ?_
  refine va_tlen (v := nI (kz_len.getD iw 0)) hx hb ((zz_S hZ).1 _ hiw).2.2.2 hS rfl d_S_length_4 ?_
  refine lv_aload_n hx hb d_S_length_5 rfl (lv_at hl 0 rfl) ?_
  have hPc := hP.sub (ws' := []) [] rfl
  have hKc := hK.sub (tys' := []) [] rfl
  refine vp_callSi (va_Run.run (va_runV (As := []) (rest := [.int (nI (kz_len.getD iw 0))]) ⟨hx, hb, hml, hown, hts⟩ (c_Cs_coder l dC dI adK adV (iw := iw) hiw) (cwV 0 hts (gV tw_243 tw_244 tw_245 tw_48 tw_246) rfl rfl rfl (by decide +kernel) ⟨(Nat.le_of_ble_eq_true rfl), (Nat.le_of_ble_eq_true rfl)⟩) ⟨fun a U g mk q => by obtain ⟨q0, qZ, qP, qK⟩ := q; exact ⟨q0, zz_call qZ, qP, va_K.moved (u := U) (U := U.calling g mk a) (Vm.Alike.refl U.vm) qK⟩, vk_recv (zz_S hZ) hiw hS, fun U hU hW => ⟨rfl, zz_rr hU hW hZ, by rw [hU]; exact hPc, va_K.moved hW.alike hKc⟩⟩ rfl rfl hl.1 rfl (lv_room (Nat.le_of_ble_eq_true rfl)) d_S_length_6 ⟨(Nat.le_of_ble_eq_true rfl), (Nat.le_of_ble_eq_true rfl)⟩)) (fun r_1 hw_2 => ?_)
  clear hPc hKc
  obtain rfl : r_1 = 0 := hw_2
  refine lv_ishr hx hb d_S_length_9 ?_
  rw [sb_shr0]
  exact W.iret (v := nI (kz_len.getD iw 0)) hx hb hr (fun t ht hW => ⟨nI (kz_len.getD iw 0), rfl, rfl, ht⟩) (fun _ h => by cases h) d_S_length_10
set_option maxHeartbeats 4000000 in
set_option maxRecDepth 100000 in
theorem c_Cs_pcheckN (l : Launch) (dC : Nat → ClassId) (dI : Nat → Nat → Nat) (adK adV : Nat → Nat) (p0 : Int32) (p1 : Int32) (h00 : ¬ p0 < 0) (h01 : p0 < p1) : Met l y_PC_checkIndex ws_PC_checkIndex ({ frames := 0, cells := 0, slots := 0, locals := 0 }) (va_Pc [.int p0, .int p1, .null] (fun U => zz adK adV (fun _ => False) U ∧ va_P (dC, dI) vwCl [] U.heap ∧ va_K (dC, dI) vwCl [] U)) (vp_Si (fun r => r = p0)) 0 0 (fun _ => False) := by
  refine Met.ofW (cc := c_PC_checkIndex) (maxL := 3) (ret := (some .int)) (by decide) rfl ?_
  intro p e s m args below meth c s₁ B hml hv
  obtain ⟨rfl, hZ, hP, hK⟩ := hv
  have hx := B.exec
  have hb := B.bytes
  have hr := B.returns
  have hts0 := atoms_spec (ws := ws_PC_checkIndex) B.pre
  have hts : ∀ w ∈ TT, w.before _ s = true := fun w h => hts0 w (List.mem_cons_of_mem _ h)
  have hown : s.vm.findClass "jdk/internal/util/Preconditions" = some m.cls := findClass_of_methodNamed B.named
  have hlocks := B.notSynchronized
  have hS : va_S (fun _ => False) s.heap s.heap [] := va_S.rf
  replace hP : va_P (dC, dI) vwCl [] s.heap := hP
  have hl := lv_entry ([.int p0, .int p1, .null]) (n := 3) (Nat.le_of_ble_eq_true rfl)
  rw [lg_entry_eq]
  generalize (lg_sl ([.int p0, .int p1, .null]) ++ List.replicate (3 - (lg_sl ([.int p0, .int p1, .null])).length) Slot.unset).toArray = ls at hl ⊢
  replace hl : lv_has ls 3 [(0, .int p0), (1, .int p1), (2, .null)] := hl
  refine lv_iload_n hx hb d_PC_checkIndex_0 rfl (lv_at hl 0 rfl) ?_
  refine lv_if_lt (tgt := 9) hx hb d_PC_checkIndex_1 (by decide) (fun c_1 => ?_) (fun c_1 => ?_)
  · exact absurd c_1 h00
  · refine lv_iload_n hx hb d_PC_checkIndex_4 rfl (lv_at hl 0 rfl) ?_
    refine lv_iload_n hx hb d_PC_checkIndex_5 rfl (lv_at hl 1 rfl) ?_
    refine lv_icmp_lt (tgt := 16) hx hb d_PC_checkIndex_6 (by decide) (fun c_2 => ?_) (fun c_2 => ?_)
    · refine lv_iload_n hx hb d_PC_checkIndex_16 rfl (lv_at hl 0 rfl) ?_
      exact W.iret (v := p0) hx hb hr (fun t ht hW => ⟨p0, rfl, rfl, ht⟩) (fun _ h => by cases h) d_PC_checkIndex_17
    · exact absurd h01 c_2
set_option maxHeartbeats 4000000 in
set_option maxRecDepth 100000 in
theorem c_Cs_pcheckR (l : Launch) (dC : Nat → ClassId) (dI : Nat → Nat → Nat) (adK adV : Nat → Nat) (p0 : Int32) (p1 : Int32) (tq : Nat) (h00 : ¬ p0 < 0) (h01 : p0 < p1) : Met l y_PC_checkIndex ws_PC_checkIndex ({ frames := 0, cells := 0, slots := 0, locals := 0 }) (va_Pc [.int p0, .int p1, .ref tq] (fun U => zz adK adV (fun _ => False) U ∧ va_P (dC, dI) vwCl [] U.heap ∧ va_K (dC, dI) vwCl [] U)) (vp_Si (fun r => r = p0)) 0 0 (fun _ => False) := by
  refine Met.ofW (cc := c_PC_checkIndex) (maxL := 3) (ret := (some .int)) (by decide) rfl ?_
  intro p e s m args below meth c s₁ B hml hv
  obtain ⟨rfl, hZ, hP, hK⟩ := hv
  have hx := B.exec
  have hb := B.bytes
  have hr := B.returns
  have hts0 := atoms_spec (ws := ws_PC_checkIndex) B.pre
  have hts : ∀ w ∈ TT, w.before _ s = true := fun w h => hts0 w (List.mem_cons_of_mem _ h)
  have hown : s.vm.findClass "jdk/internal/util/Preconditions" = some m.cls := findClass_of_methodNamed B.named
  have hlocks := B.notSynchronized
  have hS : va_S (fun _ => False) s.heap s.heap [] := va_S.rf
  replace hP : va_P (dC, dI) vwCl [] s.heap := hP
  have hl := lv_entry ([.int p0, .int p1, .ref tq]) (n := 3) (Nat.le_of_ble_eq_true rfl)
  rw [lg_entry_eq]
  generalize (lg_sl ([.int p0, .int p1, .ref tq]) ++ List.replicate (3 - (lg_sl ([.int p0, .int p1, .ref tq])).length) Slot.unset).toArray = ls at hl ⊢
  replace hl : lv_has ls 3 [(0, .int p0), (1, .int p1), (2, .ref tq)] := hl
  refine lv_iload_n hx hb d_PC_checkIndex_0 rfl (lv_at hl 0 rfl) ?_
  refine lv_if_lt (tgt := 9) hx hb d_PC_checkIndex_1 (by decide) (fun c_1 => ?_) (fun c_1 => ?_)
  · exact absurd c_1 h00
  · refine lv_iload_n hx hb d_PC_checkIndex_4 rfl (lv_at hl 0 rfl) ?_
    refine lv_iload_n hx hb d_PC_checkIndex_5 rfl (lv_at hl 1 rfl) ?_
    refine lv_icmp_lt (tgt := 16) hx hb d_PC_checkIndex_6 (by decide) (fun c_2 => ?_) (fun c_2 => ?_)
    · refine lv_iload_n hx hb d_PC_checkIndex_16 rfl (lv_at hl 0 rfl) ?_
      exact W.iret (v := p0) hx hb hr (fun t ht hW => ⟨p0, rfl, rfl, ht⟩) (fun _ h => by cases h) d_PC_checkIndex_17
    · exact absurd h01 c_2
set_option maxHeartbeats 4000000 in
set_option maxRecDepth 100000 in
theorem c_Cs_checkIndex (l : Launch) (dC : Nat → ClassId) (dI : Nat → Nat → Nat) (adK adV : Nat → Nat) (p0 : Int32) (p1 : Int32) (h00 : ¬ p0 < 0) (h01 : p0 < p1) : Met l y_S_checkIndex ws_S_checkIndex ({ frames := 1, cells := 0, slots := 0, locals := 22 }) (va_Pc [.int p0, .int p1] (fun U => zz adK adV (fun _ => False) U ∧ va_P (dC, dI) vwCl [] U.heap ∧ va_K (dC, dI) vwCl [] U)) (va_Sv (fun _ => True)) 0 0 (fun _ => False) := by
  refine Met.ofW (cc := c_S_checkIndex) (maxL := 2) (ret := none) (by decide) rfl ?_
  intro p e s m args below meth c s₁ B hml hv
  obtain ⟨rfl, hZ, hP, hK⟩ := hv
  have hx := B.exec
  have hb := B.bytes
  have hr := B.returns
  have hts0 := atoms_spec (ws := ws_S_checkIndex) B.pre
  have hts : ∀ w ∈ TT, w.before _ s = true := fun w h => hts0 w (List.mem_cons_of_mem _ h)
  have hown : s.vm.findClass "java/lang/String" = some m.cls := findClass_of_methodNamed B.named
  have hlocks := B.notSynchronized
  have hS : va_S (fun _ => False) s.heap s.heap [] := va_S.rf
  replace hP : va_P (dC, dI) vwCl [] s.heap := hP
  have hl := lv_entry ([.int p0, .int p1]) (n := 2) (Nat.le_of_ble_eq_true rfl)
  rw [lg_entry_eq]
  generalize (lg_sl ([.int p0, .int p1]) ++ List.replicate (2 - (lg_sl ([.int p0, .int p1])).length) Slot.unset).toArray = ls at hl ⊢
  replace hl : lv_has ls 2 [(0, .int p0), (1, .int p1)] := hl
  refine lv_iload_n hx hb d_S_checkIndex_0 rfl (lv_at hl 0 rfl) ?_
  refine lv_iload_n hx hb d_S_checkIndex_1 rfl (lv_at hl 1 rfl) ?_
  rcases zz_sf hZ with hq | ⟨tq, hq⟩
  · refine va_gets hx hb hq hS hown (hts _ tw_267) (fun _ h => h) d_S_checkIndex_2 ?_
    have hPc := hP.sub (ws' := []) [] rfl
    have hKc := hK.sub (tys' := []) [] rfl
    refine vp_callSi (va_Run.run (va_runS (As := [.int p0, .int p1, .null]) (rest := []) ⟨hx, hb, hml, hown, hts⟩ (c_Cs_pcheckN l dC dI adK adV (p0 := p0) (p1 := p1) h00 h01) (va_cwS 3 hts (gS tw_269 tw_270 tw_50 tw_271) rfl rfl rfl (by decide +kernel) ⟨(Nat.le_of_ble_eq_true rfl), (Nat.le_of_ble_eq_true rfl)⟩) ⟨fun a U g mk q => by obtain ⟨q0, qZ, qP, qK⟩ := q; exact ⟨q0, zz_call qZ, qP, va_K.moved (u := U) (U := U.calling g mk a) (Vm.Alike.refl U.vm) qK⟩, fun U hU hW => ⟨rfl, zz_rr hU hW hZ, by rw [hU]; exact hPc, va_K.moved hW.alike hKc⟩⟩ rfl rfl hl.1 rfl (lv_room (Nat.le_of_ble_eq_true rfl)) d_S_checkIndex_5 ⟨(Nat.le_of_ble_eq_true rfl), (Nat.le_of_ble_eq_true rfl)⟩)) (fun r_1 hw_2 => ?_)
    clear hPc hKc
    subst hw_2
    refine lv_pop hx hb d_S_checkIndex_8 rfl ?_
    exact W.vret hx hb hr (fun t ht hW => ⟨rfl, trivial, ht⟩) (fun _ h => by cases h) d_S_checkIndex_9
  · refine va_gets hx hb hq hS hown (hts _ tw_267) (fun _ h => h) d_S_checkIndex_2 ?_
    have hPc := hP.sub (ws' := []) [] rfl
    have hKc := hK.sub (tys' := []) [] rfl
    refine vp_callSi (va_Run.run (va_runS (As := [.int p0, .int p1, .ref tq]) (rest := []) ⟨hx, hb, hml, hown, hts⟩ (c_Cs_pcheckR l dC dI adK adV (p0 := p0) (p1 := p1) (tq := tq) h00 h01) (va_cwS 3 hts (gS tw_269 tw_270 tw_50 tw_271) rfl rfl rfl (by decide +kernel) ⟨(Nat.le_of_ble_eq_true rfl), (Nat.le_of_ble_eq_true rfl)⟩) ⟨fun a U g mk q => by obtain ⟨q0, qZ, qP, qK⟩ := q; exact ⟨q0, zz_call qZ, qP, va_K.moved (u := U) (U := U.calling g mk a) (Vm.Alike.refl U.vm) qK⟩, fun U hU hW => ⟨rfl, zz_rr hU hW hZ, by rw [hU]; exact hPc, va_K.moved hW.alike hKc⟩⟩ rfl rfl hl.1 rfl (lv_room (Nat.le_of_ble_eq_true rfl)) d_S_checkIndex_5 ⟨(Nat.le_of_ble_eq_true rfl), (Nat.le_of_ble_eq_true rfl)⟩)) (fun r_3 hw_4 => ?_)
    clear hPc hKc
    subst hw_4
    refine lv_pop hx hb d_S_checkIndex_8 rfl ?_
    exact W.vret hx hb hr (fun t ht hW => ⟨rfl, trivial, ht⟩) (fun _ h => by cases h) d_S_checkIndex_9
set_option maxHeartbeats 4000000 in
set_option maxRecDepth 100000 in
theorem c_Cs_charAtL (l : Launch) (dC : Nat → ClassId) (dI : Nat → Nat → Nat) (adK adV : Nat → Nat) (iw : Nat) (p0 : Int32) (hiw : iw < nst) (h00 : ¬ p0 < 0) (h01 : p0 < nI (kz_len.getD iw 0)) : Met l y_SL_charAt ws_SL_charAt ({ frames := 2, cells := 0, slots := 0, locals := 43 }) (va_Pc [.ref (adV iw), .int p0] (fun U => zz adK adV (fun _ => False) U ∧ va_P (dC, dI) vwCl [] U.heap ∧ va_K (dC, dI) vwCl [] U)) (vp_Si (fun r => r = ((((kz_byt.getD iw []).getD p0.toNatClampNeg 0) &&& 255).toUInt32 % 65536).toInt32)) 0 0 (fun _ => False) := by
  refine Met.ofW (cc := c_SL_charAt) (maxL := 2) (ret := (some .char)) (by decide) rfl ?_
  intro p e s m args below meth c s₁ B hml hv
  obtain ⟨rfl, hZ, hP, hK⟩ := hv
  have hx := B.exec
  have hb := B.bytes
  have hr := B.returns
  have hts0 := atoms_spec (ws := ws_SL_charAt) B.pre
  have hts : ∀ w ∈ TT, w.before _ s = true := fun w h => hts0 w (List.mem_cons_of_mem _ h)
  have hown : s.vm.findClass "java/lang/StringLatin1" = some m.cls := findClass_of_methodNamed B.named
  have hlocks := B.notSynchronized
  have hS : va_S (fun _ => False) s.heap s.heap [] := va_S.rf
  replace hP : va_P (dC, dI) vwCl [] s.heap := hP
  have hl := lv_entry ([.ref (adV iw), .int p0]) (n := 2) (Nat.le_of_ble_eq_true rfl)
  rw [lg_entry_eq]
  generalize (lg_sl ([.ref (adV iw), .int p0]) ++ List.replicate (2 - (lg_sl ([.ref (adV iw), .int p0])).length) Slot.unset).toArray = ls at hl ⊢
  replace hl : lv_has ls 2 [(0, .ref (adV iw)), (1, .int p0)] := hl
  refine lv_iload_n hx hb d_SL_charAt_0 rfl (lv_at hl 1 rfl) ?_
  refine lv_aload_n hx hb d_SL_charAt_1 rfl (lv_at hl 0 rfl) ?_
  refine va_tlen (v := nI (kz_len.getD iw 0)) hx hb ((zz_S hZ).1 _ hiw).2.2.2 hS rfl d_SL_charAt_2 ?_
  have hPc := hP.sub (ws' := []) [] rfl
  have hKc := hK.sub (tys' := []) [] rfl
  refine va_csv (va_Run.run (va_runS (As := [.int p0, .int (nI (kz_len.getD iw 0))]) (rest := []) ⟨hx, hb, hml, hown, hts⟩ (c_Cs_checkIndex l dC dI adK adV (p0 := p0) (p1 := nI (kz_len.getD iw 0)) h00 h01) (va_cwS 2 hts (gS tw_264 tw_265 tw_48 tw_266) rfl rfl rfl (by decide +kernel) ⟨(Nat.le_of_ble_eq_true rfl), (Nat.le_of_ble_eq_true rfl)⟩) ⟨fun a U g mk q => by obtain ⟨q0, qZ, qP, qK⟩ := q; exact ⟨q0, zz_call qZ, qP, va_K.moved (u := U) (U := U.calling g mk a) (Vm.Alike.refl U.vm) qK⟩, fun U hU hW => ⟨rfl, zz_rr hU hW hZ, by rw [hU]; exact hPc, va_K.moved hW.alike hKc⟩⟩ rfl rfl hl.1 rfl (lv_room (Nat.le_of_ble_eq_true rfl)) d_SL_charAt_3 ⟨(Nat.le_of_ble_eq_true rfl), (Nat.le_of_ble_eq_true rfl)⟩)) (fun hw_1 => ?_)
  clear hPc hKc
  refine lv_aload_n hx hb d_SL_charAt_6 rfl (lv_at hl 0 rfl) ?_
  refine lv_iload_n hx hb d_SL_charAt_7 rfl (lv_at hl 1 rfl) ?_
  have i_2 : vp_in p0 (kz_len.getD iw 0) := zk_in2 hiw h00 h01
  refine va_tb (v := .int ((kz_byt.getD iw []).getD p0.toNatClampNeg 0)) hx hb ((zz_S hZ).1 _ hiw).2.2.2 hS i_2 rfl d_SL_charAt_8 ?_
  refine lv_sipush (v := 255) hx hb d_SL_charAt_9 (by decide) ?_
  refine lv_iand hx hb d_SL_charAt_12 ?_
  refine lv_i2c hx hb d_SL_charAt_13 rfl ?_
  exact W.zret (v := ((((kz_byt.getD iw []).getD p0.toNatClampNeg 0) &&& 255).toUInt32 % 65536).toInt32) hx hb hr (pk_nc _) (fun t ht hW => ⟨((((kz_byt.getD iw []).getD p0.toNatClampNeg 0) &&& 255).toUInt32 % 65536).toInt32, rfl, rfl, ht⟩) (fun _ h => by cases h) d_SL_charAt_14
set_option maxHeartbeats 4000000 in
set_option maxRecDepth 100000 in
theorem c_Cs_charAt (l : Launch) (dC : Nat → ClassId) (dI : Nat → Nat → Nat) (adK adV : Nat → Nat) (iw : Nat) (p0 : Int32) (hiw : iw < nst) (h00 : ¬ p0 < 0) (h01 : p0 < nI (kz_len.getD iw 0)) : Met l y_S_charAt ws_S_charAt ({ frames := 3, cells := 0, slots := 0, locals := 64 }) (va_Pc [.ref (adK iw), .int p0] (fun U => zz adK adV (fun _ => False) U ∧ va_P (dC, dI) vwCl [] U.heap ∧ va_K (dC, dI) vwCl [] U)) (vp_Si (fun r => r = ((((kz_byt.getD iw []).getD p0.toNatClampNeg 0) &&& 255).toUInt32 % 65536).toInt32)) 0 0 (fun _ => False) := by
  refine Met.ofW (cc := c_S_charAt) (maxL := 2) (ret := (some .char)) (by decide) rfl ?_
  intro p e s m args below meth c s₁ B hml hv
  obtain ⟨rfl, hZ, hP, hK⟩ := hv
  have hx := B.exec
  have hb := B.bytes
  have hr := B.returns
  have hts0 := atoms_spec (ws := ws_S_charAt) B.pre
  have hts : ∀ w ∈ TT, w.before _ s = true := fun w h => hts0 w (List.mem_cons_of_mem _ h)
  have hown : s.vm.findClass "java/lang/String" = some m.cls := findClass_of_methodNamed B.named
  have hlocks := B.notSynchronized
  have hS : va_S (fun _ => False) s.heap s.heap [] := va_S.rf
  replace hP : va_P (dC, dI) vwCl [] s.heap := hP
  have hl := lv_entry ([.ref (adK iw), .int p0]) (n := 2) (Nat.le_of_ble_eq_true rfl)
  rw [lg_entry_eq]
  generalize (lg_sl ([.ref (adK iw), .int p0]) ++ List.replicate (2 - (lg_sl ([.ref (adK iw), .int p0])).length) Slot.unset).toArray = ls at hl ⊢
  replace hl : lv_has ls 2 [(0, .ref (adK iw)), (1, .int p0)] := hl
  refine lv_aload_n hx hb d_S_charAt_0 rfl (lv_at hl 0 rfl) ?_
  have hPc := hP.sub (ws' := []) [] rfl
  have hKc := hK.sub (tys' := []) [] rfl
  refine vp_callSi (va_Run.run (va_runV (As := []) (rest := []) ⟨hx, hb, hml, hown, hts⟩ (c_Cs_isLatin1 l dC dI adK adV (iw := iw) hiw) (cwV 0 hts (gV tw_257 tw_258 tw_259 tw_48 tw_260) rfl rfl rfl (by decide +kernel) ⟨(Nat.le_of_ble_eq_true rfl), (Nat.le_of_ble_eq_true rfl)⟩) ⟨fun a U g mk q => by obtain ⟨q0, qZ, qP, qK⟩ := q; exact ⟨q0, zz_call qZ, qP, va_K.moved (u := U) (U := U.calling g mk a) (Vm.Alike.refl U.vm) qK⟩, vk_recv (zz_S hZ) hiw hS, fun U hU hW => ⟨rfl, zz_rr hU hW hZ, by rw [hU]; exact hPc, va_K.moved hW.alike hKc⟩⟩ rfl rfl hl.1 rfl (lv_room (Nat.le_of_ble_eq_true rfl)) d_S_charAt_1 ⟨(Nat.le_of_ble_eq_true rfl), (Nat.le_of_ble_eq_true rfl)⟩)) (fun r_1 hw_2 => ?_)
  clear hPc hKc
  obtain rfl : r_1 = 1 := hw_2
  refine lv_if_eq (tgt := 16) hx hb d_S_charAt_4 (by decide) (fun c_3 => ?_) (fun c_3 => ?_)
  · exact absurd c_3 (by decide)
  · refine lv_aload_n hx hb d_S_charAt_7 rfl (lv_at hl 0 rfl) ?_
    refine vk_getf (v := .ref (adV iw)) hx hb ((zz_S hZ).1 _ hiw).2.2.1 hS hown (hts _ tw_823) (fun _ h => h) d_S_charAt_8 ?_
    refine lv_iload_n hx hb d_S_charAt_11 rfl (lv_at hl 1 rfl) ?_
    have hPc := hP.sub (ws' := []) [] rfl
    have hKc := hK.sub (tys' := []) [] rfl
    refine vp_callSi (va_Run.run (va_runS (As := [.ref (adV iw), .int p0]) (rest := []) ⟨hx, hb, hml, hown, hts⟩ (c_Cs_charAtL l dC dI adK adV (iw := iw) (p0 := p0) hiw h00 h01) (va_cwS 2 hts (gS tw_261 tw_262 tw_49 tw_263) rfl rfl rfl (by decide +kernel) ⟨(Nat.le_of_ble_eq_true rfl), (Nat.le_of_ble_eq_true rfl)⟩) ⟨fun a U g mk q => by obtain ⟨q0, qZ, qP, qK⟩ := q; exact ⟨q0, zz_call qZ, qP, va_K.moved (u := U) (U := U.calling g mk a) (Vm.Alike.refl U.vm) qK⟩, fun U hU hW => ⟨rfl, zz_rr hU hW hZ, by rw [hU]; exact hPc, va_K.moved hW.alike hKc⟩⟩ rfl rfl hl.1 rfl (lv_room (Nat.le_of_ble_eq_true rfl)) d_S_charAt_12 ⟨(Nat.le_of_ble_eq_true rfl), (Nat.le_of_ble_eq_true rfl)⟩)) (fun r_4 hw_5 => ?_)
    clear hPc hKc
    subst hw_5
    exact W.zret (v := ((((kz_byt.getD iw []).getD p0.toNatClampNeg 0) &&& 255).toUInt32 % 65536).toInt32) hx hb hr (pk_nc _) (fun t ht hW => ⟨((((kz_byt.getD iw []).getD p0.toNatClampNeg 0) &&& 255).toUInt32 % 65536).toInt32, rfl, rfl, ht⟩) (fun _ h => by cases h) d_S_charAt_15
def gl_tword : Nat → (Nat) → (Int32) → (Int32) → (Nat → Int32) → (Int32) → Nat × Int32
  | 0, iw, w_ln, w_pl, f_sg, iq => (0, iq)
  | n + 1, iw, w_ln, w_pl, f_sg, iq =>
    if (nI (kz_len.getD iw 0)) ≤ iq then
      (0, iq)
    else
      if (g_Cg_signAt (w_pl + iq) w_ln f_sg) = (((((kz_byt.getD iw []).getD iq.toNatClampNeg 0) &&& 255).toUInt32 % 65536).toInt32) then
        gl_tword n iw w_ln w_pl f_sg (iq + 1)
      else
        (1, iq)
def g_Cg_takesWord (iw : Nat) (w_ln : Int32) (w_pl : Int32) (f_sg : Nat → Int32) : Int32 × Int32 :=
  bv (gl_tword 10 iw w_ln w_pl f_sg 0) (fun x_1 =>
    if x_1.1 = 0 then
      if (g_Cg_isLetter (g_Cg_signAt (w_pl + (nI (kz_len.getD iw 0))) w_ln f_sg)) = 0 then
        (1, w_pl + (nI (kz_len.getD iw 0)))
      else
        (0, w_pl)
    else
      (0, w_pl))
theorem nz_Cg_takesWord {iw : Nat} {w_ln : Int32} {w_pl : Int32} {f_sg : Nat → Int32} : b01 (g_Cg_takesWord iw w_ln w_pl f_sg).1 := by
  unfold g_Cg_takesWord
  repeat' (first | with_reducible refine b01_i (fun _ => ?_) (fun _ => ?_) | with_reducible refine b01_v ?_)
  all_goals first | with_reducible exact b01_0 | with_reducible exact b01_1
set_option maxHeartbeats 4000000 in
set_option maxRecDepth 100000 in
theorem c_Cg_takesWord (l : Launch) (dC : Nat → ClassId) (dI : Nat → Nat → Nat) (adK adV : Nat → Nat) (a_tx : Nat) (a_sg : Nat) (k_sg : ClassId) (iw : Nat) (w_ln : Int32) (w_pl : Int32) (w_wr : Int32) (f_sg : Nat → Int32) (sz : Nat) (hiw : iw < nst) : Met l y_T_takesWord ws_T_takesWord ({ frames := 4, cells := 0, slots := 0, locals := 85 }) (va_Pc [.ref a_tx, .ref (adK iw)] (fun U => U.heap.size = sz ∧ zz adK adV (va_A [(a_tx, .inr (4, [.ref a_sg, .int w_ln, .int w_pl, .int w_wr])), (a_sg, .inl (k_sg, 120, .inl f_sg))] sz) U ∧ va_P (dC, dI) vwCl [(a_tx, .inr (4, [.ref a_sg, .int w_ln, .int w_pl, .int w_wr])), (a_sg, .inl (k_sg, 120, .inl f_sg))] U.heap ∧ va_K (dC, dI) vwCl [(k_sg, .char)] U ∧ va_D (fun _ => True) [(a_tx, .inr (4, [.ref a_sg, .int w_ln, .int w_pl, .int w_wr])), (a_sg, .inl (k_sg, 120, .inl f_sg))])) (va_Qi (fun (r : Int32) (_ : Unit) => r = (g_Cg_takesWord iw w_ln w_pl f_sg).1) (fun (_ : Unit) (t : State) => va_P (dC, dI) vwCl [(a_tx, .inr (4, [.ref a_sg, .int w_ln, .int ((g_Cg_takesWord iw w_ln w_pl f_sg).2), .int w_wr])), (a_sg, .inl (k_sg, 120, .inl f_sg))] t.heap ∧ va_K (dC, dI) vwCl [(k_sg, .char)] t ∧ va_D (va_A [(a_tx, .inr (4, [.ref a_sg, .int w_ln, .int w_pl, .int w_wr])), (a_sg, .inl (k_sg, 120, .inl f_sg))] sz) [(a_tx, .inr (4, [.ref a_sg, .int w_ln, .int ((g_Cg_takesWord iw w_ln w_pl f_sg).2), .int w_wr])), (a_sg, .inl (k_sg, 120, .inl f_sg))]) (va_A [(a_tx, .inr (4, [.ref a_sg, .int w_ln, .int w_pl, .int w_wr])), (a_sg, .inl (k_sg, 120, .inl f_sg))] sz)) 0 0 (va_A [(a_tx, .inr (4, [.ref a_sg, .int w_ln, .int w_pl, .int w_wr])), (a_sg, .inl (k_sg, 120, .inl f_sg))] sz) := by
  refine Met.ofW (cc := c_T_takesWord) (maxL := 3) (ret := (some .boolean)) (by decide) rfl ?_
  intro p e s m args below meth c s₁ B hml hv
  obtain ⟨rfl, hsz, hZ, hP, hK, hD0⟩ := hv
  have hx := B.exec
  have hb := B.bytes
  have hr := B.returns
  have hts0 := atoms_spec (ws := ws_T_takesWord) B.pre
  have hts : ∀ w ∈ TT, w.before _ s = true := fun w h => hts0 w (List.mem_cons_of_mem _ h)
  have hown : s.vm.findClass "LoanRules$RuleText" = some m.cls := findClass_of_methodNamed B.named
  have hlocks := B.notSynchronized
  subst hsz
  have hD := hD0.self (sz := s.heap.size)
  generalize hAe : va_A [(a_tx, .inr (4, [.ref a_sg, .int w_ln, .int w_pl, .int w_wr])), (a_sg, .inl (k_sg, 120, .inl f_sg))] s.heap.size = A at hD hZ ⊢
  have hA : ∀ q : Nat, s.heap.size ≤ q → A q := fun q h => by rw [← hAe]; exact Or.inr h
  clear hAe hD0
  have hS : va_S A s.heap s.heap [] := va_S.rf
  replace hP : va_P (dC, dI) vwCl [(a_tx, .inr (4, [.ref a_sg, .int w_ln, .int w_pl, .int w_wr])), (a_sg, .inl (k_sg, 120, .inl f_sg))] s.heap := hP
  have hl := lv_entry ([.ref a_tx, .ref (adK iw)]) (n := 3) (Nat.le_of_ble_eq_true rfl)
  rw [lg_entry_eq]
  generalize (lg_sl ([.ref a_tx, .ref (adK iw)]) ++ List.replicate (3 - (lg_sl ([.ref a_tx, .ref (adK iw)])).length) Slot.unset).toArray = ls at hl ⊢
  replace hl : lv_has ls 3 [(0, .ref a_tx), (1, .ref (adK iw))] := hl
  obtain ⟨z, hz⟩ : ∃ z, z = g_Cg_takesWord iw w_ln w_pl f_sg := ⟨_, rfl⟩
  have hE := hz
  rw [g_Cg_takesWord] at hE
  refine lv_iconst (v := 0) hx hb d_T_takesWord_0 (by decide) ?_
  refine lv_istore_n (lv' := [(2, .int 0), (0, .ref a_tx), (1, .ref (adK iw))]) hx hb d_T_takesWord_1 rfl hl (by decide) rfl (fun ls hl => ?_)
  obtain ⟨H, hHe⟩ : ∃ H, H = s.heap := ⟨_, rfl⟩
  obtain ⟨locs, hLe⟩ : ∃ locs : List Loc, locs = [] := ⟨_, rfl⟩
  replace hP : va_P (dC, dI) vwCl [(a_tx, .inr (4, [.ref a_sg, .int w_ln, .int w_pl, .int w_wr])), (a_sg, .inl (k_sg, 120, .inl f_sg))] H := by rw [hHe]; exact hP
  replace hS : va_S A s.heap H locs := by rw [hHe, hLe]; exact hS
  refine fl_gen hHe hLe ?_
  clear hHe hLe
  generalize hg_x_1 : gl_tword 10 iw w_ln w_pl f_sg 0 = x_1 at hE
  rw [bv_eq] at hE
  obtain ⟨iq, e_iq⟩ : ∃ q9 : Int32, q9 = 0 := ⟨_, rfl⟩
  obtain ⟨n, e_n⟩ : ∃ q9 : Nat, q9 = 10 := ⟨_, rfl⟩
  have hAll : va_P (dC, dI) vwCl [(a_tx, .inr (4, [.ref a_sg, .int w_ln, .int w_pl, .int w_wr])), (a_sg, .inl (k_sg, 120, .inl f_sg))] H ∧ va_D A [(a_tx, .inr (4, [.ref a_sg, .int w_ln, .int w_pl, .int w_wr])), (a_sg, .inl (k_sg, 120, .inl f_sg))] ∧ va_S A s.heap H locs ∧ lv_has ls 3 [(2, .int iq), (0, .ref a_tx), (1, .ref (adK iw))] ∧ (0 ≤ iq.toInt ∧ iq.toInt ≤ 9) ∧ 10 - iq.toInt.toNat ≤ n ∧ gl_tword n iw w_ln w_pl f_sg iq = x_1 := by
    subst e_iq e_n
    exact ⟨hP, hD, hS, hl, (by decide), by decide, hg_x_1⟩
  clear hP hl hD hS e_iq e_n hg_x_1
  induction n generalizing iq H locs ls with
  | zero =>
    obtain ⟨hP, hD, hS, hl, hiq, hm_tword, hg_tword⟩ := hAll
    exfalso; omega
  | succ n ih_tword =>
    obtain ⟨hP, hD, hS, hl, hiq, hm_tword, hg_tword⟩ := hAll
    rw [gl_tword] at hg_tword
    refine lv_iload_n hx hb d_T_takesWord_2 rfl (lv_at hl 0 rfl) ?_
    refine lv_aload_n hx hb d_T_takesWord_3 rfl (lv_at hl 2 rfl) ?_
    have hPc := hP.sub (ws' := []) [] rfl
    have hKc := hK.sub (tys' := []) [] rfl
    refine vp_callSi (va_Run.run (va_runV (As := []) (rest := [.int iq]) ⟨hx, hb, hml, hown, hts⟩ (c_Cs_strlen l dC dI adK adV (iw := iw) hiw) (cwV 0 hts (gV tw_239 tw_240 tw_241 tw_48 tw_242) rfl rfl rfl (by decide +kernel) ⟨(Nat.le_of_ble_eq_true rfl), (Nat.le_of_ble_eq_true rfl)⟩) ⟨fun a U g mk q => by obtain ⟨q0, qZ, qP, qK⟩ := q; exact ⟨q0, zz_call qZ, qP, va_K.moved (u := U) (U := U.calling g mk a) (Vm.Alike.refl U.vm) qK⟩, vk_recv (zz_S hZ) hiw hS, fun U hU hW => ⟨rfl, zz_ro hS hU hW hZ, by rw [hU]; exact hPc, va_K.moved hW.alike hKc⟩⟩ rfl rfl hl.1 rfl (lv_room (Nat.le_of_ble_eq_true rfl)) d_T_takesWord_4 ⟨(Nat.le_of_ble_eq_true rfl), (Nat.le_of_ble_eq_true rfl)⟩)) (fun r_2 hw_3 => ?_)
    clear hPc hKc
    subst hw_3
    refine lv_icmp_ge (tgt := 36) hx hb d_T_takesWord_7 (by decide) (fun c_4 => ?_) (fun c_4 => ?_)
    · rw [if_pos c_4] at hg_tword
      subst hg_tword
      dsimp only at hE
      rw [if_pos rfl] at hE
      refine lv_aload_n hx hb d_T_takesWord_36 rfl (lv_at hl 1 rfl) ?_
      refine lv_aload_n hx hb d_T_takesWord_37 rfl (lv_at hl 1 rfl) ?_
      refine va_get (D := (dC, dI)) (ci := 4) (v := .int w_pl) (C := "LoanRules$RuleText") (T := Fz_T) (N := 4) hx hb hts it_T hown hK hP 0 rfl rfl 2 (by decide) (hts _ tw_74) (fun _ h9 => h9) rfl d_T_takesWord_38 ?_
      refine lv_aload_n hx hb d_T_takesWord_41 rfl (lv_at hl 2 rfl) ?_
      have hPc := hP.sub (ws' := []) [] rfl
      have hKc := hK.sub (tys' := []) [] rfl
      refine vp_callSi (va_Run.run (va_runV (As := []) (rest := [.int w_pl, .ref a_tx]) ⟨hx, hb, hml, hown, hts⟩ (c_Cs_strlen l dC dI adK adV (iw := iw) hiw) (cwV 0 hts (gV tw_239 tw_240 tw_241 tw_48 tw_242) rfl rfl rfl (by decide +kernel) ⟨(Nat.le_of_ble_eq_true rfl), (Nat.le_of_ble_eq_true rfl)⟩) ⟨fun a U g mk q => by obtain ⟨q0, qZ, qP, qK⟩ := q; exact ⟨q0, zz_call qZ, qP, va_K.moved (u := U) (U := U.calling g mk a) (Vm.Alike.refl U.vm) qK⟩, vk_recv (zz_S hZ) hiw hS, fun U hU hW => ⟨rfl, zz_ro hS hU hW hZ, by rw [hU]; exact hPc, va_K.moved hW.alike hKc⟩⟩ rfl rfl hl.1 rfl (lv_room (Nat.le_of_ble_eq_true rfl)) d_T_takesWord_42 ⟨(Nat.le_of_ble_eq_true rfl), (Nat.le_of_ble_eq_true rfl)⟩)) (fun r_5 hw_6 => ?_)
      clear hPc hKc
      subst hw_6
      refine lv_iadd hx hb d_T_takesWord_45 ?_
      have hPc := hP.sub (ws' := [(a_tx, .inr (4, [.ref a_sg, .int w_ln, .int w_pl, .int w_wr])), (a_sg, .inl (k_sg, 120, .inl f_sg))]) [0, 1] rfl
      have hKc := hK.sub (tys' := [(k_sg, .char)]) [0] rfl
      refine vp_callSi (va_Run.run (va_runV (As := [.int (w_pl + (nI (kz_len.getD iw 0)))]) (rest := []) ⟨hx, hb, hml, hown, hts⟩ (c_Cg_signAt l dC dI adK adV (a_tx := a_tx) (p0 := w_pl + (nI (kz_len.getD iw 0))) (a_sg := a_sg) (w_ln := w_ln) (w_pl := w_pl) (w_wr := w_wr) (k_sg := k_sg) (f_sg := f_sg)) (cwV 1 hts (gV tw_249 tw_251 tw_2 tw_43 tw_252) rfl rfl rfl (by decide +kernel) ⟨(Nat.le_of_ble_eq_true rfl), (Nat.le_of_ble_eq_true rfl)⟩) ⟨fun a U g mk q => by obtain ⟨q0, qZ, qP, qK⟩ := q; exact ⟨q0, zz_call qZ, qP, va_K.moved (u := U) (U := U.calling g mk a) (Vm.Alike.refl U.vm) qK⟩, va_recv hKc hPc (ci := 4) (q0 := 0) rfl rfl, fun U hU hW => ⟨rfl, zz_ro hS hU hW hZ, by rw [hU]; exact hPc, va_K.moved hW.alike hKc⟩⟩ rfl rfl hl.1 rfl (lv_room (Nat.le_of_ble_eq_true rfl)) d_T_takesWord_46 ⟨(Nat.le_of_ble_eq_true rfl), (Nat.le_of_ble_eq_true rfl)⟩)) (fun r_7 hw_8 => ?_)
      clear hPc hKc
      subst hw_8
      have hPc := hP.sub (ws' := []) [] rfl
      have hKc := hK.sub (tys' := []) [] rfl
      refine vp_callSi (va_Run.run (va_runS (As := [.int (g_Cg_signAt (w_pl + (nI (kz_len.getD iw 0))) w_ln f_sg)]) (rest := []) ⟨hx, hb, hml, hown, hts⟩ (c_Cg_isLetter l dC dI adK adV (p0 := g_Cg_signAt (w_pl + (nI (kz_len.getD iw 0))) w_ln f_sg)) (va_cwS 1 hts (gS tw_291 tw_292 tw_43 tw_293) rfl rfl rfl (by decide +kernel) ⟨(Nat.le_of_ble_eq_true rfl), (Nat.le_of_ble_eq_true rfl)⟩) ⟨fun a U g mk q => by obtain ⟨q0, qZ, qP, qK⟩ := q; exact ⟨q0, zz_call qZ, qP, va_K.moved (u := U) (U := U.calling g mk a) (Vm.Alike.refl U.vm) qK⟩, fun U hU hW => ⟨rfl, zz_ro hS hU hW hZ, by rw [hU]; exact hPc, va_K.moved hW.alike hKc⟩⟩ rfl rfl hl.1 rfl (lv_room (Nat.le_of_ble_eq_true rfl)) d_T_takesWord_49 ⟨(Nat.le_of_ble_eq_true rfl), (Nat.le_of_ble_eq_true rfl)⟩)) (fun r_9 hw_10 => ?_)
      clear hPc hKc
      subst hw_10
      refine lv_if_eq (tgt := 57) hx hb d_T_takesWord_52 (by decide) (fun c_11 => ?_) (fun c_11 => ?_)
      · rw [if_pos c_11] at hE
        refine lv_aload_n hx hb d_T_takesWord_57 rfl (lv_at hl 1 rfl) ?_
        refine lv_dup hx hb d_T_takesWord_58 rfl ?_
        refine va_get (D := (dC, dI)) (ci := 4) (v := .int w_pl) (C := "LoanRules$RuleText") (T := Fz_T) (N := 4) hx hb hts it_T hown hK hP 0 rfl rfl 2 (by decide) (hts _ tw_74) (fun _ h9 => h9) rfl d_T_takesWord_59 ?_
        refine lv_aload_n hx hb d_T_takesWord_62 rfl (lv_at hl 2 rfl) ?_
        have hPc := hP.sub (ws' := []) [] rfl
        have hKc := hK.sub (tys' := []) [] rfl
        refine vp_callSi (va_Run.run (va_runV (As := []) (rest := [.int w_pl, .ref a_tx]) ⟨hx, hb, hml, hown, hts⟩ (c_Cs_strlen l dC dI adK adV (iw := iw) hiw) (cwV 0 hts (gV tw_239 tw_240 tw_241 tw_48 tw_242) rfl rfl rfl (by decide +kernel) ⟨(Nat.le_of_ble_eq_true rfl), (Nat.le_of_ble_eq_true rfl)⟩) ⟨fun a U g mk q => by obtain ⟨q0, qZ, qP, qK⟩ := q; exact ⟨q0, zz_call qZ, qP, va_K.moved (u := U) (U := U.calling g mk a) (Vm.Alike.refl U.vm) qK⟩, vk_recv (zz_S hZ) hiw hS, fun U hU hW => ⟨rfl, zz_ro hS hU hW hZ, by rw [hU]; exact hPc, va_K.moved hW.alike hKc⟩⟩ rfl rfl hl.1 rfl (lv_room (Nat.le_of_ble_eq_true rfl)) d_T_takesWord_63 ⟨(Nat.le_of_ble_eq_true rfl), (Nat.le_of_ble_eq_true rfl)⟩)) (fun r_12 hw_13 => ?_)
        clear hPc hKc
        subst hw_13
        refine lv_iadd hx hb d_T_takesWord_66 ?_
        refine va_put (D := (dC, dI)) (ci := 4) (v := .int (w_pl + (nI (kz_len.getD iw 0)))) (ty := .int) (C := "LoanRules$RuleText") (T := Fz_T) (N := 4) hx hb hts it_T tz_T tz_T_ok nz_T hown hK hP hD hS 0 rfl rfl 2 (by decide) (hts _ tw_74) (fun _ h9 => h9) rfl (by decide +kernel) rfl rfl (Nat.le_of_ble_eq_true rfl) d_T_takesWord_67 (fun H locs hP hD hS => ?_)
        replace hP : va_P (dC, dI) vwCl [(a_tx, .inr (4, [.ref a_sg, .int w_ln, .int (w_pl + (nI (kz_len.getD iw 0))), .int w_wr])), (a_sg, .inl (k_sg, 120, .inl f_sg))] H := hP
        replace hD : va_D A [(a_tx, .inr (4, [.ref a_sg, .int w_ln, .int (w_pl + (nI (kz_len.getD iw 0))), .int w_wr])), (a_sg, .inl (k_sg, 120, .inl f_sg))] := hD
        refine lv_iconst (v := 1) hx hb d_T_takesWord_70 (by decide) ?_
        have hP9 := hP.sub (ws' := [(a_tx, .inr (4, [.ref a_sg, .int w_ln, .int (w_pl + (nI (kz_len.getD iw 0))), .int w_wr])), (a_sg, .inl (k_sg, 120, .inl f_sg))]) [0, 1] rfl
        have hD9 := hD.sub (ws' := [(a_tx, .inr (4, [.ref a_sg, .int w_ln, .int (w_pl + (nI (kz_len.getD iw 0))), .int w_wr])), (a_sg, .inl (k_sg, 120, .inl f_sg))]) [0, 1] (by decide) rfl
        have hK9 := hK.sub (tys' := [(k_sg, .char)]) [0] rfl
        exact W.zret (v := 1) hx hb hr rfl (fun t ht hW => ⟨⟨1, (), rfl, by rw [← hz, hE], by rw [ht, ← hz, hE]; exact hP9, va_K.moved hW.alike hK9, by rw [← hz, hE]; exact hD9⟩, hS.F ht⟩) hS.2.2 d_T_takesWord_71
      · rw [if_neg c_11] at hE
        refine lv_iconst (v := 0) hx hb d_T_takesWord_55 (by decide) ?_
        have hP9 := hP.sub (ws' := [(a_tx, .inr (4, [.ref a_sg, .int w_ln, .int w_pl, .int w_wr])), (a_sg, .inl (k_sg, 120, .inl f_sg))]) [0, 1] rfl
        have hD9 := hD.sub (ws' := [(a_tx, .inr (4, [.ref a_sg, .int w_ln, .int w_pl, .int w_wr])), (a_sg, .inl (k_sg, 120, .inl f_sg))]) [0, 1] (by decide) rfl
        have hK9 := hK.sub (tys' := [(k_sg, .char)]) [0] rfl
        exact W.zret (v := 0) hx hb hr rfl (fun t ht hW => ⟨⟨0, (), rfl, by rw [← hz, hE], by rw [ht, ← hz, hE]; exact hP9, va_K.moved hW.alike hK9, by rw [← hz, hE]; exact hD9⟩, hS.F ht⟩) hS.2.2 d_T_takesWord_56
    · rw [if_neg c_4] at hg_tword
      refine lv_aload_n hx hb d_T_takesWord_10 rfl (lv_at hl 1 rfl) ?_
      refine lv_aload_n hx hb d_T_takesWord_11 rfl (lv_at hl 1 rfl) ?_
      refine va_get (D := (dC, dI)) (ci := 4) (v := .int w_pl) (C := "LoanRules$RuleText") (T := Fz_T) (N := 4) hx hb hts it_T hown hK hP 0 rfl rfl 2 (by decide) (hts _ tw_74) (fun _ h9 => h9) rfl d_T_takesWord_12 ?_
      refine lv_iload_n hx hb d_T_takesWord_15 rfl (lv_at hl 0 rfl) ?_
      refine lv_iadd hx hb d_T_takesWord_16 ?_
      have hPc := hP.sub (ws' := [(a_tx, .inr (4, [.ref a_sg, .int w_ln, .int w_pl, .int w_wr])), (a_sg, .inl (k_sg, 120, .inl f_sg))]) [0, 1] rfl
      have hKc := hK.sub (tys' := [(k_sg, .char)]) [0] rfl
      refine vp_callSi (va_Run.run (va_runV (As := [.int (w_pl + iq)]) (rest := []) ⟨hx, hb, hml, hown, hts⟩ (c_Cg_signAt l dC dI adK adV (a_tx := a_tx) (p0 := w_pl + iq) (a_sg := a_sg) (w_ln := w_ln) (w_pl := w_pl) (w_wr := w_wr) (k_sg := k_sg) (f_sg := f_sg)) (cwV 1 hts (gV tw_249 tw_251 tw_2 tw_43 tw_252) rfl rfl rfl (by decide +kernel) ⟨(Nat.le_of_ble_eq_true rfl), (Nat.le_of_ble_eq_true rfl)⟩) ⟨fun a U g mk q => by obtain ⟨q0, qZ, qP, qK⟩ := q; exact ⟨q0, zz_call qZ, qP, va_K.moved (u := U) (U := U.calling g mk a) (Vm.Alike.refl U.vm) qK⟩, va_recv hKc hPc (ci := 4) (q0 := 0) rfl rfl, fun U hU hW => ⟨rfl, zz_ro hS hU hW hZ, by rw [hU]; exact hPc, va_K.moved hW.alike hKc⟩⟩ rfl rfl hl.1 rfl (lv_room (Nat.le_of_ble_eq_true rfl)) d_T_takesWord_17 ⟨(Nat.le_of_ble_eq_true rfl), (Nat.le_of_ble_eq_true rfl)⟩)) (fun r_14 hw_15 => ?_)
      clear hPc hKc
      subst hw_15
      refine lv_aload_n hx hb d_T_takesWord_20 rfl (lv_at hl 2 rfl) ?_
      refine lv_iload_n hx hb d_T_takesWord_21 rfl (lv_at hl 0 rfl) ?_
      have hPc := hP.sub (ws' := []) [] rfl
      have hKc := hK.sub (tys' := []) [] rfl
      refine vp_callSi (va_Run.run (va_runV (As := [.int iq]) (rest := [.int (g_Cg_signAt (w_pl + iq) w_ln f_sg)]) ⟨hx, hb, hml, hown, hts⟩ (c_Cs_charAt l dC dI adK adV (iw := iw) (p0 := iq) hiw (zk_n0 hiq) (zk_gt c_4)) (cwV 1 hts (gV tw_253 tw_254 tw_255 tw_48 tw_256) rfl rfl rfl (by decide +kernel) ⟨(Nat.le_of_ble_eq_true rfl), (Nat.le_of_ble_eq_true rfl)⟩) ⟨fun a U g mk q => by obtain ⟨q0, qZ, qP, qK⟩ := q; exact ⟨q0, zz_call qZ, qP, va_K.moved (u := U) (U := U.calling g mk a) (Vm.Alike.refl U.vm) qK⟩, vk_recv (zz_S hZ) hiw hS, fun U hU hW => ⟨rfl, zz_ro hS hU hW hZ, by rw [hU]; exact hPc, va_K.moved hW.alike hKc⟩⟩ rfl rfl hl.1 rfl (lv_room (Nat.le_of_ble_eq_true rfl)) d_T_takesWord_22 ⟨(Nat.le_of_ble_eq_true rfl), (Nat.le_of_ble_eq_true rfl)⟩)) (fun r_16 hw_17 => ?_)
      clear hPc hKc
      subst hw_17
      refine lv_icmp_eq (tgt := 30) hx hb d_T_takesWord_25 (by decide) (fun c_18 => ?_) (fun c_18 => ?_)
      · rw [if_pos c_18] at hg_tword
        refine lv_iinc (v := iq + 1) (lv' := [(2, .int (iq + 1)), (0, .ref a_tx), (1, .ref (adK iw))]) hx hb d_T_takesWord_30 hl (k := 0) rfl rfl (by decide) rfl (fun ls hl => ?_)
        refine lv_goto (tgt := 2) hx hb d_T_takesWord_33 (by decide) ?_
        exact ih_tword _ _ _ _ ⟨hP, hD, hS, lv_sub hl [0, 1, 2] rfl, (zk_s hiw hiq c_4), (zk_m hiw hiq c_4 hm_tword), hg_tword⟩
      · rw [if_neg c_18] at hg_tword
        subst hg_tword
        dsimp only at hE
        rw [if_neg (by decide)] at hE
        refine lv_iconst (v := 0) hx hb d_T_takesWord_28 (by decide) ?_
        have hP9 := hP.sub (ws' := [(a_tx, .inr (4, [.ref a_sg, .int w_ln, .int w_pl, .int w_wr])), (a_sg, .inl (k_sg, 120, .inl f_sg))]) [0, 1] rfl
        have hD9 := hD.sub (ws' := [(a_tx, .inr (4, [.ref a_sg, .int w_ln, .int w_pl, .int w_wr])), (a_sg, .inl (k_sg, 120, .inl f_sg))]) [0, 1] (by decide) rfl
        have hK9 := hK.sub (tys' := [(k_sg, .char)]) [0] rfl
        exact W.zret (v := 0) hx hb hr rfl (fun t ht hW => ⟨⟨0, (), rfl, by rw [← hz, hE], by rw [ht, ← hz, hE]; exact hP9, va_K.moved hW.alike hK9, by rw [← hz, hE]; exact hD9⟩, hS.F ht⟩) hS.2.2 d_T_takesWord_29
theorem tw_sg {iw : Nat} {ln pl : Int32} {f : Nat → Int32} (hiw : iw < nst) (hln : i120 ln) (hpl : i120 pl) : ∀ (n : Nat) (iq : Int32), 0 ≤ iq.toInt ∧ iq.toInt ≤ 9 → 10 - iq.toInt.toNat ≤ n → iq.toInt < kz_len.getD iw 0 → (gl_tword n iw ln pl f iq).1 = 0 → pl.toInt + kz_len.getD iw 0 ≤ ln.toInt := by
  intro n
  have hm := zk_max hiw
  induction n with
  | zero => intro iq hq hn _ _; omega
  | succ n ih =>
    intro iq hq hn hlt h
    rw [gl_tword] at h
    split at h
    · rename_i c
      rw [li_le, nI_toInt (by omega)] at c
      omega
    · split at h
      · rename_i c
        have h1 := sg_lt (y := _) (fun e => zk_chr e.symm) c
        rw [li_add (by omega) (by omega)] at h1
        have h2 : (iq + 1).toInt = iq.toInt + 1 := li_inc (by omega) (by omega)
        by_cases h3 : iq.toInt + 1 < kz_len.getD iw 0
        · exact ih (iq + 1) (by omega) (by omega) (by omega) h
        · omega
      · exact absurd h (Nat.succ_ne_zero 0)
theorem twd_at {iw : Nat} {w_ln w_pl : Int32} {f_sg : Nat → Int32} (hiw : iw < nst) (hln : i120 w_ln) (hpl : i120 w_pl) : i120 (g_Cg_takesWord iw w_ln w_pl f_sg).2 := by
  unfold g_Cg_takesWord
  with_reducible refine pt_v (fun t : Int32 × Int32 => i120 t.2) ?_
  with_reducible refine pt_i (fun t : Int32 × Int32 => i120 t.2) (fun c => ?_) (fun _ => hpl)
  with_reducible refine pt_i (fun t : Int32 × Int32 => i120 t.2) (fun _ => ?_) (fun _ => hpl)
  have hm := zk_max hiw
  have h := tw_sg hiw hln hpl 10 0 (by decide) (by decide) (by rw [li_0]; omega) c
  have e : (w_pl + nI (kz_len.getD iw 0)).toInt = w_pl.toInt + kz_len.getD iw 0 := by
    rw [li_add (by rw [nI_toInt (by omega)]; omega) (by rw [nI_toInt (by omega)]; omega), nI_toInt (by omega)]
  show 0 ≤ (w_pl + nI (kz_len.getD iw 0)).toInt ∧ (w_pl + nI (kz_len.getD iw 0)).toInt ≤ 120
  omega
theorem twd_no {iw : Nat} {w_ln w_pl : Int32} {f_sg : Nat → Int32} : (g_Cg_takesWord iw w_ln w_pl f_sg).1 = 0 → (g_Cg_takesWord iw w_ln w_pl f_sg).2 = w_pl := by
  unfold g_Cg_takesWord
  repeat' (first | with_reducible refine pt_i (fun t : Int32 × Int32 => t.1 = 0 → t.2 = w_pl) (fun _ => ?_) (fun _ => ?_) | with_reducible refine pt_v (fun t : Int32 × Int32 => t.1 = 0 → t.2 = w_pl) ?_)
  all_goals first | exact fun _ => rfl | exact fun h => absurd (show (1 : Int32) = 0 from h) (by decide)
def g_Cg_takesWordBehindSpace (iw : Nat) (w_ln : Int32) (w_pl : Int32) (f_sg : Nat → Int32) : Int32 × Int32 :=
  if (g_Cg_signAt w_pl w_ln f_sg) = 32 then
    bv (g_Cg_takesWord iw w_ln (w_pl + 1) f_sg) (fun x_6 =>
      if x_6.1 = 0 then
        (0, x_6.2 - 1)
      else
        (1, x_6.2))
  else
    (0, w_pl)
theorem nz_Cg_takesWordBehindSpace {iw : Nat} {w_ln : Int32} {w_pl : Int32} {f_sg : Nat → Int32} : b01 (g_Cg_takesWordBehindSpace iw w_ln w_pl f_sg).1 := by
  unfold g_Cg_takesWordBehindSpace
  repeat' (first | with_reducible refine b01_i (fun _ => ?_) (fun _ => ?_) | with_reducible refine b01_v ?_)
  all_goals first | with_reducible exact b01_0 | with_reducible exact b01_1 | with_reducible exact nz_Cg_takesWord
set_option maxHeartbeats 4000000 in
set_option maxRecDepth 100000 in
theorem c_Cg_takesWordBehindSpace (l : Launch) (dC : Nat → ClassId) (dI : Nat → Nat → Nat) (adK adV : Nat → Nat) (a_tx : Nat) (a_sg : Nat) (k_sg : ClassId) (iw : Nat) (w_ln : Int32) (w_pl : Int32) (w_wr : Int32) (f_sg : Nat → Int32) (sz : Nat) (hiw : iw < nst) : Met l y_T_takesWordBehindSpace ws_T_takesWordBehindSpace ({ frames := 5, cells := 0, slots := 0, locals := 107 }) (va_Pc [.ref a_tx, .ref (adK iw)] (fun U => U.heap.size = sz ∧ zz adK adV (va_A [(a_tx, .inr (4, [.ref a_sg, .int w_ln, .int w_pl, .int w_wr])), (a_sg, .inl (k_sg, 120, .inl f_sg))] sz) U ∧ va_P (dC, dI) vwCl [(a_tx, .inr (4, [.ref a_sg, .int w_ln, .int w_pl, .int w_wr])), (a_sg, .inl (k_sg, 120, .inl f_sg))] U.heap ∧ va_K (dC, dI) vwCl [(k_sg, .char)] U ∧ va_D (fun _ => True) [(a_tx, .inr (4, [.ref a_sg, .int w_ln, .int w_pl, .int w_wr])), (a_sg, .inl (k_sg, 120, .inl f_sg))])) (va_Qi (fun (r : Int32) (_ : Unit) => r = (g_Cg_takesWordBehindSpace iw w_ln w_pl f_sg).1) (fun (_ : Unit) (t : State) => va_P (dC, dI) vwCl [(a_tx, .inr (4, [.ref a_sg, .int w_ln, .int ((g_Cg_takesWordBehindSpace iw w_ln w_pl f_sg).2), .int w_wr])), (a_sg, .inl (k_sg, 120, .inl f_sg))] t.heap ∧ va_K (dC, dI) vwCl [(k_sg, .char)] t ∧ va_D (va_A [(a_tx, .inr (4, [.ref a_sg, .int w_ln, .int w_pl, .int w_wr])), (a_sg, .inl (k_sg, 120, .inl f_sg))] sz) [(a_tx, .inr (4, [.ref a_sg, .int w_ln, .int ((g_Cg_takesWordBehindSpace iw w_ln w_pl f_sg).2), .int w_wr])), (a_sg, .inl (k_sg, 120, .inl f_sg))]) (va_A [(a_tx, .inr (4, [.ref a_sg, .int w_ln, .int w_pl, .int w_wr])), (a_sg, .inl (k_sg, 120, .inl f_sg))] sz)) 0 0 (va_A [(a_tx, .inr (4, [.ref a_sg, .int w_ln, .int w_pl, .int w_wr])), (a_sg, .inl (k_sg, 120, .inl f_sg))] sz) := by
  refine Met.ofW (cc := c_T_takesWordBehindSpace) (maxL := 2) (ret := (some .boolean)) (by decide) rfl ?_
  intro p e s m args below meth c s₁ B hml hv
  obtain ⟨rfl, hsz, hZ, hP, hK, hD0⟩ := hv
  have hx := B.exec
  have hb := B.bytes
  have hr := B.returns
  have hts0 := atoms_spec (ws := ws_T_takesWordBehindSpace) B.pre
  have hts : ∀ w ∈ TT, w.before _ s = true := fun w h => hts0 w (List.mem_cons_of_mem _ h)
  have hown : s.vm.findClass "LoanRules$RuleText" = some m.cls := findClass_of_methodNamed B.named
  have hlocks := B.notSynchronized
  subst hsz
  have hD := hD0.self (sz := s.heap.size)
  generalize hAe : va_A [(a_tx, .inr (4, [.ref a_sg, .int w_ln, .int w_pl, .int w_wr])), (a_sg, .inl (k_sg, 120, .inl f_sg))] s.heap.size = A at hD hZ ⊢
  have hA : ∀ q : Nat, s.heap.size ≤ q → A q := fun q h => by rw [← hAe]; exact Or.inr h
  clear hAe hD0
  have hS : va_S A s.heap s.heap [] := va_S.rf
  replace hP : va_P (dC, dI) vwCl [(a_tx, .inr (4, [.ref a_sg, .int w_ln, .int w_pl, .int w_wr])), (a_sg, .inl (k_sg, 120, .inl f_sg))] s.heap := hP
  have hl := lv_entry ([.ref a_tx, .ref (adK iw)]) (n := 2) (Nat.le_of_ble_eq_true rfl)
  rw [lg_entry_eq]
  generalize (lg_sl ([.ref a_tx, .ref (adK iw)]) ++ List.replicate (2 - (lg_sl ([.ref a_tx, .ref (adK iw)])).length) Slot.unset).toArray = ls at hl ⊢
  replace hl : lv_has ls 2 [(0, .ref a_tx), (1, .ref (adK iw))] := hl
  obtain ⟨z, hz⟩ : ∃ z, z = g_Cg_takesWordBehindSpace iw w_ln w_pl f_sg := ⟨_, rfl⟩
  have hE := hz
  rw [g_Cg_takesWordBehindSpace] at hE
  refine lv_aload_n hx hb d_T_takesWordBehindSpace_0 rfl (lv_at hl 0 rfl) ?_
  refine lv_aload_n hx hb d_T_takesWordBehindSpace_1 rfl (lv_at hl 0 rfl) ?_
  refine va_get (D := (dC, dI)) (ci := 4) (v := .int w_pl) (C := "LoanRules$RuleText") (T := Fz_T) (N := 4) hx hb hts it_T hown hK hP 0 rfl rfl 2 (by decide) (hts _ tw_74) (fun _ h9 => h9) rfl d_T_takesWordBehindSpace_2 ?_
  have hPc := hP.sub (ws' := [(a_tx, .inr (4, [.ref a_sg, .int w_ln, .int w_pl, .int w_wr])), (a_sg, .inl (k_sg, 120, .inl f_sg))]) [0, 1] rfl
  have hKc := hK.sub (tys' := [(k_sg, .char)]) [0] rfl
  refine vp_callSi (va_Run.run (va_runV (As := [.int w_pl]) (rest := []) ⟨hx, hb, hml, hown, hts⟩ (c_Cg_signAt l dC dI adK adV (a_tx := a_tx) (p0 := w_pl) (a_sg := a_sg) (w_ln := w_ln) (w_pl := w_pl) (w_wr := w_wr) (k_sg := k_sg) (f_sg := f_sg)) (cwV 1 hts (gV tw_249 tw_251 tw_2 tw_43 tw_252) rfl rfl rfl (by decide +kernel) ⟨(Nat.le_of_ble_eq_true rfl), (Nat.le_of_ble_eq_true rfl)⟩) ⟨fun a U g mk q => by obtain ⟨q0, qZ, qP, qK⟩ := q; exact ⟨q0, zz_call qZ, qP, va_K.moved (u := U) (U := U.calling g mk a) (Vm.Alike.refl U.vm) qK⟩, va_recv hKc hPc (ci := 4) (q0 := 0) rfl rfl, fun U hU hW => ⟨rfl, zz_ro hS hU hW hZ, by rw [hU]; exact hPc, va_K.moved hW.alike hKc⟩⟩ rfl rfl hl.1 rfl (lv_room (Nat.le_of_ble_eq_true rfl)) d_T_takesWordBehindSpace_5 ⟨(Nat.le_of_ble_eq_true rfl), (Nat.le_of_ble_eq_true rfl)⟩)) (fun r_1 hw_2 => ?_)
  clear hPc hKc
  subst hw_2
  refine lv_bipush (v := 32) hx hb d_T_takesWordBehindSpace_8 (by decide) ?_
  refine lv_icmp_eq (tgt := 15) hx hb d_T_takesWordBehindSpace_10 (by decide) (fun c_3 => ?_) (fun c_3 => ?_)
  · rw [if_pos c_3] at hE
    refine lv_aload_n hx hb d_T_takesWordBehindSpace_15 rfl (lv_at hl 0 rfl) ?_
    refine lv_dup hx hb d_T_takesWordBehindSpace_16 rfl ?_
    refine va_get (D := (dC, dI)) (ci := 4) (v := .int w_pl) (C := "LoanRules$RuleText") (T := Fz_T) (N := 4) hx hb hts it_T hown hK hP 0 rfl rfl 2 (by decide) (hts _ tw_74) (fun _ h9 => h9) rfl d_T_takesWordBehindSpace_17 ?_
    refine lv_iconst (v := 1) hx hb d_T_takesWordBehindSpace_20 (by decide) ?_
    refine lv_iadd hx hb d_T_takesWordBehindSpace_21 ?_
    refine va_put (D := (dC, dI)) (ci := 4) (v := .int (w_pl + 1)) (ty := .int) (C := "LoanRules$RuleText") (T := Fz_T) (N := 4) hx hb hts it_T tz_T tz_T_ok nz_T hown hK hP hD hS 0 rfl rfl 2 (by decide) (hts _ tw_74) (fun _ h9 => h9) rfl (by decide +kernel) rfl rfl (Nat.le_of_ble_eq_true rfl) d_T_takesWordBehindSpace_22 (fun H locs hP hD hS => ?_)
    replace hP : va_P (dC, dI) vwCl [(a_tx, .inr (4, [.ref a_sg, .int w_ln, .int (w_pl + 1), .int w_wr])), (a_sg, .inl (k_sg, 120, .inl f_sg))] H := hP
    replace hD : va_D A [(a_tx, .inr (4, [.ref a_sg, .int w_ln, .int (w_pl + 1), .int w_wr])), (a_sg, .inl (k_sg, 120, .inl f_sg))] := hD
    refine lv_aload_n hx hb d_T_takesWordBehindSpace_25 rfl (lv_at hl 0 rfl) ?_
    refine lv_aload_n hx hb d_T_takesWordBehindSpace_26 rfl (lv_at hl 1 rfl) ?_
    have hPc := hP.sub (ws' := [(a_tx, .inr (4, [.ref a_sg, .int w_ln, .int (w_pl + 1), .int w_wr])), (a_sg, .inl (k_sg, 120, .inl f_sg))]) [0, 1] rfl
    have hKc := hK.sub (tys' := [(k_sg, .char)]) [0] rfl
    have hDc := hD.sub (ws' := [(a_tx, .inr (4, [.ref a_sg, .int w_ln, .int (w_pl + 1), .int w_wr])), (a_sg, .inl (k_sg, 120, .inl f_sg))]) [0, 1] (by decide) rfl
    have hFc := va_free (wc := [(a_tx, .inr (4, [.ref a_sg, .int w_ln, .int (w_pl + 1), .int w_wr])), (a_sg, .inl (k_sg, 120, .inl f_sg))]) hD hS hA [0, 1] rfl
    refine va_calli (va_runV (As := [.ref (adK iw)]) (rest := []) ⟨hx, hb, hml, hown, hts⟩ (c_Cg_takesWord l dC dI adK adV (a_tx := a_tx) (iw := iw) (a_sg := a_sg) (w_ln := w_ln) (w_pl := w_pl + 1) (w_wr := w_wr) (k_sg := k_sg) (f_sg := f_sg) (sz := H.size) hiw) (cwV 1 hts (gV tw_235 tw_237 tw_1 tw_43 tw_238) rfl rfl rfl (by decide +kernel) ⟨(Nat.le_of_ble_eq_true rfl), (Nat.le_of_ble_eq_true rfl)⟩) ⟨fun a U g mk q => by obtain ⟨q0, q1, qZ, qP, qK, qD⟩ := q; exact ⟨q0, q1, zz_call qZ, qP, va_K.moved (u := U) (U := U.calling g mk a) (Vm.Alike.refl U.vm) qK, qD⟩, va_recv hKc hPc (ci := 4) (q0 := 0) rfl rfl, fun U hU hW => ⟨rfl, by rw [hU], zz_rw hS hFc hU hW hZ, by rw [hU]; exact hPc, va_K.moved hW.alike hKc, hDc.weaken (fun _ _ _ _ => trivial)⟩⟩ rfl rfl hl.1 rfl (lv_room (Nat.le_of_ble_eq_true rfl)) d_T_takesWordBehindSpace_27 ⟨(Nat.le_of_ble_eq_true rfl), (Nat.le_of_ble_eq_true rfl)⟩) hS (fun q _ h => hFc q h) hFc (fun r_4 u t H1 locs ht hvm hw_5 hB hz1 hk1 hS => ?_)
    generalize hg_x_6 : g_Cg_takesWord iw w_ln (w_pl + 1) f_sg = x_6 at hw_5 hB hE
    rw [bv_eq] at hE
    obtain ⟨hP1, hK1, hD1⟩ := hB
    rw [ht] at hP1
    have hK1 := va_K.moved hvm.symm hK1
    obtain rfl : r_4 = x_6.1 := hw_5
    obtain ⟨hP, hD⟩ := va_join (wr := []) (w1 := [(a_tx, .inr (4, [.ref a_sg, .int w_ln, .int x_6.2, .int w_wr])), (a_sg, .inl (k_sg, 120, .inl f_sg))]) hP hD [0, 1] [] rfl rfl (by decide) (by decide) hk1 hFc hP1 hD1
    replace hK := (hK.sub (tys' := []) [] rfl).app hK1
    generalize H1 = H at hP hS ⊢
    replace hP := hP.sub (ws' := [(a_tx, .inr (4, [.ref a_sg, .int w_ln, .int x_6.2, .int w_wr])), (a_sg, .inl (k_sg, 120, .inl f_sg))]) [0, 1] rfl
    replace hD := hD.sub (ws' := [(a_tx, .inr (4, [.ref a_sg, .int w_ln, .int x_6.2, .int w_wr])), (a_sg, .inl (k_sg, 120, .inl f_sg))]) [0, 1] (by decide) rfl
    replace hK := hK.sub (tys' := [(k_sg, .char)]) [0] rfl
    refine lv_if_eq (tgt := 35) hx hb d_T_takesWordBehindSpace_30 (by decide) (fun c_7 => ?_) (fun c_7 => ?_)
    · rw [if_pos c_7] at hE
      refine lv_aload_n hx hb d_T_takesWordBehindSpace_35 rfl (lv_at hl 0 rfl) ?_
      refine lv_dup hx hb d_T_takesWordBehindSpace_36 rfl ?_
      refine va_get (D := (dC, dI)) (ci := 4) (v := .int x_6.2) (C := "LoanRules$RuleText") (T := Fz_T) (N := 4) hx hb hts it_T hown hK hP 0 rfl rfl 2 (by decide) (hts _ tw_74) (fun _ h9 => h9) rfl d_T_takesWordBehindSpace_37 ?_
      refine lv_iconst (v := 1) hx hb d_T_takesWordBehindSpace_40 (by decide) ?_
      refine lv_isub hx hb d_T_takesWordBehindSpace_41 ?_
      refine va_put (D := (dC, dI)) (ci := 4) (v := .int (x_6.2 - 1)) (ty := .int) (C := "LoanRules$RuleText") (T := Fz_T) (N := 4) hx hb hts it_T tz_T tz_T_ok nz_T hown hK hP hD hS 0 rfl rfl 2 (by decide) (hts _ tw_74) (fun _ h9 => h9) rfl (by decide +kernel) rfl rfl (Nat.le_of_ble_eq_true rfl) d_T_takesWordBehindSpace_42 (fun H locs hP hD hS => ?_)
      replace hP : va_P (dC, dI) vwCl [(a_tx, .inr (4, [.ref a_sg, .int w_ln, .int (x_6.2 - 1), .int w_wr])), (a_sg, .inl (k_sg, 120, .inl f_sg))] H := hP
      replace hD : va_D A [(a_tx, .inr (4, [.ref a_sg, .int w_ln, .int (x_6.2 - 1), .int w_wr])), (a_sg, .inl (k_sg, 120, .inl f_sg))] := hD
      refine lv_iconst (v := 0) hx hb d_T_takesWordBehindSpace_45 (by decide) ?_
      have hP9 := hP.sub (ws' := [(a_tx, .inr (4, [.ref a_sg, .int w_ln, .int (x_6.2 - 1), .int w_wr])), (a_sg, .inl (k_sg, 120, .inl f_sg))]) [0, 1] rfl
      have hD9 := hD.sub (ws' := [(a_tx, .inr (4, [.ref a_sg, .int w_ln, .int (x_6.2 - 1), .int w_wr])), (a_sg, .inl (k_sg, 120, .inl f_sg))]) [0, 1] (by decide) rfl
      have hK9 := hK.sub (tys' := [(k_sg, .char)]) [0] rfl
      exact W.zret (v := 0) hx hb hr rfl (fun t ht hW => ⟨⟨0, (), rfl, by rw [← hz, hE], by rw [ht, ← hz, hE]; exact hP9, va_K.moved hW.alike hK9, by rw [← hz, hE]; exact hD9⟩, hS.F ht⟩) hS.2.2 d_T_takesWordBehindSpace_46
    · rw [if_neg c_7] at hE
      refine lv_iconst (v := 1) hx hb d_T_takesWordBehindSpace_33 (by decide) ?_
      have hP9 := hP.sub (ws' := [(a_tx, .inr (4, [.ref a_sg, .int w_ln, .int x_6.2, .int w_wr])), (a_sg, .inl (k_sg, 120, .inl f_sg))]) [0, 1] rfl
      have hD9 := hD.sub (ws' := [(a_tx, .inr (4, [.ref a_sg, .int w_ln, .int x_6.2, .int w_wr])), (a_sg, .inl (k_sg, 120, .inl f_sg))]) [0, 1] (by decide) rfl
      have hK9 := hK.sub (tys' := [(k_sg, .char)]) [0] rfl
      exact W.zret (v := 1) hx hb hr rfl (fun t ht hW => ⟨⟨1, (), rfl, by rw [← hz, hE], by rw [ht, ← hz, hE]; exact hP9, va_K.moved hW.alike hK9, by rw [← hz, hE]; exact hD9⟩, hS.F ht⟩) hS.2.2 d_T_takesWordBehindSpace_34
  · rw [if_neg c_3] at hE
    refine lv_iconst (v := 0) hx hb d_T_takesWordBehindSpace_13 (by decide) ?_
    have hP9 := hP.sub (ws' := [(a_tx, .inr (4, [.ref a_sg, .int w_ln, .int w_pl, .int w_wr])), (a_sg, .inl (k_sg, 120, .inl f_sg))]) [0, 1] rfl
    have hD9 := hD.sub (ws' := [(a_tx, .inr (4, [.ref a_sg, .int w_ln, .int w_pl, .int w_wr])), (a_sg, .inl (k_sg, 120, .inl f_sg))]) [0, 1] (by decide) rfl
    have hK9 := hK.sub (tys' := [(k_sg, .char)]) [0] rfl
    exact W.zret (v := 0) hx hb hr rfl (fun t ht hW => ⟨⟨0, (), rfl, by rw [← hz, hE], by rw [ht, ← hz, hE]; exact hP9, va_K.moved hW.alike hK9, by rw [← hz, hE]; exact hD9⟩, hS.F ht⟩) hS.2.2 d_T_takesWordBehindSpace_14
theorem twb_at {iw : Nat} {w_ln w_pl : Int32} {f_sg : Nat → Int32} (hiw : iw < nst) (hln : i120 w_ln) (hpl : i120 w_pl) : i120 (g_Cg_takesWordBehindSpace iw w_ln w_pl f_sg).2 := by
  unfold g_Cg_takesWordBehindSpace
  with_reducible refine pt_i (fun t : Int32 × Int32 => i120 t.2) (fun c => ?_) (fun _ => hpl)
  have h1 : i120 (w_pl + 1) := li_k hpl hln (sg_lt (by decide) c).2
  with_reducible refine pt_v (fun t : Int32 × Int32 => i120 t.2) ?_
  with_reducible refine pt_i (fun t : Int32 × Int32 => i120 t.2) (fun c2 => ?_) (fun _ => twd_at hiw hln h1)
  show i120 ((g_Cg_takesWord iw w_ln (w_pl + 1) f_sg).2 - 1)
  rw [twd_no c2, Int32.add_sub_cancel]
  exact hpl
def g_Cg_readOption (p0 : Int32) (iw : Nat) (w_ln : Int32) (w_pl : Int32) (w_wr : Int32) (f_sg : Nat → Int32) : Int32 × Int32 × Int32 :=
  bv (g_Cg_takesWordBehindSpace iw w_ln w_pl f_sg) (fun x_3 =>
    if x_3.1 = 0 then
      (p0, x_3.2, w_wr)
    else
      bv (g_Cg_takeNumber 3 999 w_ln x_3.2 w_wr f_sg) (fun x_7 =>
        (x_7.1, x_7.2.1, x_7.2.2)))
set_option maxHeartbeats 4000000 in
set_option maxRecDepth 100000 in
theorem c_Cg_readOption (l : Launch) (dC : Nat → ClassId) (dI : Nat → Nat → Nat) (adK adV : Nat → Nat) (a_tx : Nat) (a_sg : Nat) (k_sg : ClassId) (p0 : Int32) (iw : Nat) (w_ln : Int32) (w_pl : Int32) (w_wr : Int32) (f_sg : Nat → Int32) (sz : Nat) (hiw : iw < nst) (hln : 0 ≤ w_ln.toInt ∧ w_ln.toInt ≤ 120) (hpl : 0 ≤ w_pl.toInt ∧ w_pl.toInt ≤ 120) : Met l y_T_readOption ws_T_readOption ({ frames := 6, cells := 0, slots := 0, locals := 128 }) (va_Pc [.ref a_tx, .ref (adK iw), .int p0] (fun U => U.heap.size = sz ∧ zz adK adV (va_A [(a_tx, .inr (4, [.ref a_sg, .int w_ln, .int w_pl, .int w_wr])), (a_sg, .inl (k_sg, 120, .inl f_sg))] sz) U ∧ va_P (dC, dI) vwCl [(a_tx, .inr (4, [.ref a_sg, .int w_ln, .int w_pl, .int w_wr])), (a_sg, .inl (k_sg, 120, .inl f_sg))] U.heap ∧ va_K (dC, dI) vwCl [(k_sg, .char)] U ∧ va_D (fun _ => True) [(a_tx, .inr (4, [.ref a_sg, .int w_ln, .int w_pl, .int w_wr])), (a_sg, .inl (k_sg, 120, .inl f_sg))])) (va_Qi (fun (r : Int32) (_ : Unit) => r = (g_Cg_readOption p0 iw w_ln w_pl w_wr f_sg).1) (fun (_ : Unit) (t : State) => va_P (dC, dI) vwCl [(a_tx, .inr (4, [.ref a_sg, .int w_ln, .int ((g_Cg_readOption p0 iw w_ln w_pl w_wr f_sg).2.1), .int ((g_Cg_readOption p0 iw w_ln w_pl w_wr f_sg).2.2)])), (a_sg, .inl (k_sg, 120, .inl f_sg))] t.heap ∧ va_K (dC, dI) vwCl [(k_sg, .char)] t ∧ va_D (va_A [(a_tx, .inr (4, [.ref a_sg, .int w_ln, .int w_pl, .int w_wr])), (a_sg, .inl (k_sg, 120, .inl f_sg))] sz) [(a_tx, .inr (4, [.ref a_sg, .int w_ln, .int ((g_Cg_readOption p0 iw w_ln w_pl w_wr f_sg).2.1), .int ((g_Cg_readOption p0 iw w_ln w_pl w_wr f_sg).2.2)])), (a_sg, .inl (k_sg, 120, .inl f_sg))]) (va_A [(a_tx, .inr (4, [.ref a_sg, .int w_ln, .int w_pl, .int w_wr])), (a_sg, .inl (k_sg, 120, .inl f_sg))] sz)) 0 0 (va_A [(a_tx, .inr (4, [.ref a_sg, .int w_ln, .int w_pl, .int w_wr])), (a_sg, .inl (k_sg, 120, .inl f_sg))] sz) := by
  refine Met.ofW (cc := c_T_readOption) (maxL := 3) (ret := (some .int)) (by decide) rfl ?_
  intro p e s m args below meth c s₁ B hml hv
  obtain ⟨rfl, hsz, hZ, hP, hK, hD0⟩ := hv
  have hx := B.exec
  have hb := B.bytes
  have hr := B.returns
  have hts0 := atoms_spec (ws := ws_T_readOption) B.pre
  have hts : ∀ w ∈ TT, w.before _ s = true := fun w h => hts0 w (List.mem_cons_of_mem _ h)
  have hown : s.vm.findClass "LoanRules$RuleText" = some m.cls := findClass_of_methodNamed B.named
  have hlocks := B.notSynchronized
  subst hsz
  have hD := hD0.self (sz := s.heap.size)
  generalize hAe : va_A [(a_tx, .inr (4, [.ref a_sg, .int w_ln, .int w_pl, .int w_wr])), (a_sg, .inl (k_sg, 120, .inl f_sg))] s.heap.size = A at hD hZ ⊢
  have hA : ∀ q : Nat, s.heap.size ≤ q → A q := fun q h => by rw [← hAe]; exact Or.inr h
  clear hAe hD0
  have hS : va_S A s.heap s.heap [] := va_S.rf
  replace hP : va_P (dC, dI) vwCl [(a_tx, .inr (4, [.ref a_sg, .int w_ln, .int w_pl, .int w_wr])), (a_sg, .inl (k_sg, 120, .inl f_sg))] s.heap := hP
  have hl := lv_entry ([.ref a_tx, .ref (adK iw), .int p0]) (n := 3) (Nat.le_of_ble_eq_true rfl)
  rw [lg_entry_eq]
  generalize (lg_sl ([.ref a_tx, .ref (adK iw), .int p0]) ++ List.replicate (3 - (lg_sl ([.ref a_tx, .ref (adK iw), .int p0])).length) Slot.unset).toArray = ls at hl ⊢
  replace hl : lv_has ls 3 [(0, .ref a_tx), (1, .ref (adK iw)), (2, .int p0)] := hl
  obtain ⟨z, hz⟩ : ∃ z, z = g_Cg_readOption p0 iw w_ln w_pl w_wr f_sg := ⟨_, rfl⟩
  have hE := hz
  rw [g_Cg_readOption] at hE
  refine lv_aload_n hx hb d_T_readOption_0 rfl (lv_at hl 0 rfl) ?_
  refine lv_aload_n hx hb d_T_readOption_1 rfl (lv_at hl 1 rfl) ?_
  have hPc := hP.sub (ws' := [(a_tx, .inr (4, [.ref a_sg, .int w_ln, .int w_pl, .int w_wr])), (a_sg, .inl (k_sg, 120, .inl f_sg))]) [0, 1] rfl
  have hKc := hK.sub (tys' := [(k_sg, .char)]) [0] rfl
  have hDc := hD.sub (ws' := [(a_tx, .inr (4, [.ref a_sg, .int w_ln, .int w_pl, .int w_wr])), (a_sg, .inl (k_sg, 120, .inl f_sg))]) [0, 1] (by decide) rfl
  have hFc := va_free (wc := [(a_tx, .inr (4, [.ref a_sg, .int w_ln, .int w_pl, .int w_wr])), (a_sg, .inl (k_sg, 120, .inl f_sg))]) hD hS hA [0, 1] rfl
  refine va_calli (va_runV (As := [.ref (adK iw)]) (rest := []) ⟨hx, hb, hml, hown, hts⟩ (c_Cg_takesWordBehindSpace l dC dI adK adV (a_tx := a_tx) (iw := iw) (a_sg := a_sg) (w_ln := w_ln) (w_pl := w_pl) (w_wr := w_wr) (k_sg := k_sg) (f_sg := f_sg) (sz := s.heap.size) hiw) (cwV 1 hts (gV tw_321 tw_323 tw_8 tw_43 tw_324) rfl rfl rfl (by decide +kernel) ⟨(Nat.le_of_ble_eq_true rfl), (Nat.le_of_ble_eq_true rfl)⟩) ⟨fun a U g mk q => by obtain ⟨q0, q1, qZ, qP, qK, qD⟩ := q; exact ⟨q0, q1, zz_call qZ, qP, va_K.moved (u := U) (U := U.calling g mk a) (Vm.Alike.refl U.vm) qK, qD⟩, va_recv hKc hPc (ci := 4) (q0 := 0) rfl rfl, fun U hU hW => ⟨rfl, by rw [hU], zz_rw hS hFc hU hW hZ, by rw [hU]; exact hPc, va_K.moved hW.alike hKc, hDc.weaken (fun _ _ _ _ => trivial)⟩⟩ rfl rfl hl.1 rfl (lv_room (Nat.le_of_ble_eq_true rfl)) d_T_readOption_2 ⟨(Nat.le_of_ble_eq_true rfl), (Nat.le_of_ble_eq_true rfl)⟩) hS (fun q _ h => hFc q h) hFc (fun r_1 u t H1 locs ht hvm hw_2 hB hz1 hk1 hS => ?_)
  generalize hg_x_3 : g_Cg_takesWordBehindSpace iw w_ln w_pl f_sg = x_3 at hw_2 hB hE
  rw [bv_eq] at hE
  obtain ⟨hP1, hK1, hD1⟩ := hB
  rw [ht] at hP1
  have hK1 := va_K.moved hvm.symm hK1
  obtain rfl : r_1 = x_3.1 := hw_2
  obtain ⟨hP, hD⟩ := va_join (wr := []) (w1 := [(a_tx, .inr (4, [.ref a_sg, .int w_ln, .int x_3.2, .int w_wr])), (a_sg, .inl (k_sg, 120, .inl f_sg))]) hP hD [0, 1] [] rfl rfl (by decide) (by decide) hk1 hFc hP1 hD1
  replace hK := (hK.sub (tys' := []) [] rfl).app hK1
  generalize H1 = H at hP hS ⊢
  replace hP := hP.sub (ws' := [(a_tx, .inr (4, [.ref a_sg, .int w_ln, .int x_3.2, .int w_wr])), (a_sg, .inl (k_sg, 120, .inl f_sg))]) [0, 1] rfl
  replace hD := hD.sub (ws' := [(a_tx, .inr (4, [.ref a_sg, .int w_ln, .int x_3.2, .int w_wr])), (a_sg, .inl (k_sg, 120, .inl f_sg))]) [0, 1] (by decide) rfl
  replace hK := hK.sub (tys' := [(k_sg, .char)]) [0] rfl
  refine lv_if_eq (tgt := 19) hx hb d_T_readOption_5 (by decide) (fun c_4 => ?_) (fun c_4 => ?_)
  · rw [if_pos c_4] at hE
    refine lv_iload_n hx hb d_T_readOption_19 rfl (lv_at hl 2 rfl) ?_
    have hP9 := hP.sub (ws' := [(a_tx, .inr (4, [.ref a_sg, .int w_ln, .int x_3.2, .int w_wr])), (a_sg, .inl (k_sg, 120, .inl f_sg))]) [0, 1] rfl
    have hD9 := hD.sub (ws' := [(a_tx, .inr (4, [.ref a_sg, .int w_ln, .int x_3.2, .int w_wr])), (a_sg, .inl (k_sg, 120, .inl f_sg))]) [0, 1] (by decide) rfl
    have hK9 := hK.sub (tys' := [(k_sg, .char)]) [0] rfl
    exact W.iret (v := p0) hx hb hr (fun t ht hW => ⟨⟨p0, (), rfl, by rw [← hz, hE], by rw [ht, ← hz, hE]; exact hP9, va_K.moved hW.alike hK9, by rw [← hz, hE]; exact hD9⟩, hS.F ht⟩) hS.2.2 d_T_readOption_20
  · rw [if_neg c_4] at hE
    refine lv_aload_n hx hb d_T_readOption_8 rfl (lv_at hl 0 rfl) ?_
    refine lv_iconst (v := 3) hx hb d_T_readOption_9 (by decide) ?_
    refine lv_sipush (v := 999) hx hb d_T_readOption_10 (by decide) ?_
    have hPc := hP.sub (ws' := [(a_tx, .inr (4, [.ref a_sg, .int w_ln, .int x_3.2, .int w_wr])), (a_sg, .inl (k_sg, 120, .inl f_sg))]) [0, 1] rfl
    have hKc := hK.sub (tys' := [(k_sg, .char)]) [0] rfl
    have hDc := hD.sub (ws' := [(a_tx, .inr (4, [.ref a_sg, .int w_ln, .int x_3.2, .int w_wr])), (a_sg, .inl (k_sg, 120, .inl f_sg))]) [0, 1] (by decide) rfl
    have hFc := va_free (wc := [(a_tx, .inr (4, [.ref a_sg, .int w_ln, .int x_3.2, .int w_wr])), (a_sg, .inl (k_sg, 120, .inl f_sg))]) hD hS hA [0, 1] rfl
    refine va_calli (va_runV (As := [.int 3, .int 999]) (rest := []) ⟨hx, hb, hml, hown, hts⟩ (c_Cg_takeNumber l dC dI adK adV (a_tx := a_tx) (p0 := 3) (p1 := 999) (a_sg := a_sg) (w_ln := w_ln) (w_pl := x_3.2) (w_wr := w_wr) (k_sg := k_sg) (f_sg := f_sg) (sz := H.size) hln (ga2 hg_x_3 (twb_at hiw hln hpl))) (cwV 2 hts (gV tw_294 tw_296 tw_3 tw_43 tw_297) rfl rfl rfl (by decide +kernel) ⟨(Nat.le_of_ble_eq_true rfl), (Nat.le_of_ble_eq_true rfl)⟩) ⟨fun a U g mk q => by obtain ⟨q0, q1, qZ, qP, qK, qD⟩ := q; exact ⟨q0, q1, zz_call qZ, qP, va_K.moved (u := U) (U := U.calling g mk a) (Vm.Alike.refl U.vm) qK, qD⟩, va_recv hKc hPc (ci := 4) (q0 := 0) rfl rfl, fun U hU hW => ⟨rfl, by rw [hU], zz_rw hS hFc hU hW hZ, by rw [hU]; exact hPc, va_K.moved hW.alike hKc, hDc.weaken (fun _ _ _ _ => trivial)⟩⟩ rfl rfl hl.1 rfl (lv_room (Nat.le_of_ble_eq_true rfl)) d_T_readOption_13 ⟨(Nat.le_of_ble_eq_true rfl), (Nat.le_of_ble_eq_true rfl)⟩) hS (fun q _ h => hFc q h) hFc (fun r_5 u t H1 locs ht hvm hw_6 hB hz1 hk1 hS => ?_)
    generalize hg_x_7 : g_Cg_takeNumber 3 999 w_ln x_3.2 w_wr f_sg = x_7 at hw_6 hB hE
    rw [bv_eq] at hE
    obtain ⟨hP1, hK1, hD1⟩ := hB
    rw [ht] at hP1
    have hK1 := va_K.moved hvm.symm hK1
    obtain rfl : r_5 = x_7.1 := hw_6
    obtain ⟨hP, hD⟩ := va_join (wr := []) (w1 := [(a_tx, .inr (4, [.ref a_sg, .int w_ln, .int x_7.2.1, .int x_7.2.2])), (a_sg, .inl (k_sg, 120, .inl f_sg))]) hP hD [0, 1] [] rfl rfl (by decide) (by decide) hk1 hFc hP1 hD1
    replace hK := (hK.sub (tys' := []) [] rfl).app hK1
    generalize H1 = H at hP hS ⊢
    replace hP := hP.sub (ws' := [(a_tx, .inr (4, [.ref a_sg, .int w_ln, .int x_7.2.1, .int x_7.2.2])), (a_sg, .inl (k_sg, 120, .inl f_sg))]) [0, 1] rfl
    replace hD := hD.sub (ws' := [(a_tx, .inr (4, [.ref a_sg, .int w_ln, .int x_7.2.1, .int x_7.2.2])), (a_sg, .inl (k_sg, 120, .inl f_sg))]) [0, 1] (by decide) rfl
    replace hK := hK.sub (tys' := [(k_sg, .char)]) [0] rfl
    refine lv_goto (tgt := 20) hx hb d_T_readOption_16 (by decide) ?_
    have hP9 := hP.sub (ws' := [(a_tx, .inr (4, [.ref a_sg, .int w_ln, .int x_7.2.1, .int x_7.2.2])), (a_sg, .inl (k_sg, 120, .inl f_sg))]) [0, 1] rfl
    have hD9 := hD.sub (ws' := [(a_tx, .inr (4, [.ref a_sg, .int w_ln, .int x_7.2.1, .int x_7.2.2])), (a_sg, .inl (k_sg, 120, .inl f_sg))]) [0, 1] (by decide) rfl
    have hK9 := hK.sub (tys' := [(k_sg, .char)]) [0] rfl
    exact W.iret (v := x_7.1) hx hb hr (fun t ht hW => ⟨⟨x_7.1, (), rfl, by rw [← hz, hE], by rw [ht, ← hz, hE]; exact hP9, va_K.moved hW.alike hK9, by rw [← hz, hE]; exact hD9⟩, hS.F ht⟩) hS.2.2 d_T_readOption_20
