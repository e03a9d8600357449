def g_Mg_isDay (p0 : Int32) : Int32 :=
  if p0 < 0 then
    0
  else
    if 10000 ≤ p0 then
      0
    else
      1
set_option maxHeartbeats 4000000 in
set_option maxRecDepth 100000 in
theorem c_Mg_isDay (l : Launch) (dC : Nat → ClassId) (dI : Nat → Nat → Nat) (adK adV : Nat → Nat) (p0 : Int32) : Met l y_M_isDay ws_M_isDay ({ frames := 0, cells := 0, slots := 0, locals := 0 }) (va_Pc [.int p0] (fun U => zz adK adV (fun _ => False) U ∧ va_P (dC, dI) vwCl [] U.heap ∧ va_K (dC, dI) vwCl [] U)) (vp_Si (fun r => r = g_Mg_isDay p0)) 0 0 (fun _ => False) := by
  refine Met.ofW (cc := c_M_isDay) (maxL := 1) (ret := (some .boolean)) (by decide) rfl ?_
  intro p e s m args below meth c s₁ B hml hv
  obtain ⟨rfl, hZ, hP, hK⟩ := hv
  have hx := B.exec
  have hb := B.bytes
  have hr := B.returns
  have hts0 := atoms_spec (ws := ws_M_isDay) B.pre
  have hts : ∀ w ∈ TT, w.before _ s = true := fun w h => hts0 w (List.mem_cons_of_mem _ h)
  have hown : s.vm.findClass "LoanRulesModel" = some m.cls := findClass_of_methodNamed B.named
  have hlocks := B.notSynchronized
  have hS : va_S (fun _ => False) s.heap s.heap [] := va_S.rf
  replace hP : va_P (dC, dI) vwCl [] s.heap := hP
  have hl := lv_entry ([.int p0]) (n := 1) (Nat.le_of_ble_eq_true rfl)
  rw [lg_entry_eq]
  generalize (lg_sl ([.int p0]) ++ List.replicate (1 - (lg_sl ([.int p0])).length) Slot.unset).toArray = ls at hl ⊢
  replace hl : lv_has ls 1 [(0, .int p0)] := hl
  obtain ⟨z, hz⟩ : ∃ z, z = g_Mg_isDay p0 := ⟨_, rfl⟩
  have hE := hz
  rw [g_Mg_isDay] at hE
  refine lv_iload_n hx hb d_M_isDay_0 rfl (lv_at hl 0 rfl) ?_
  refine lv_if_lt (tgt := 15) hx hb d_M_isDay_1 (by decide) (fun c_1 => ?_) (fun c_1 => ?_)
  · rw [if_pos c_1] at hE
    refine lv_iconst (v := 0) hx hb d_M_isDay_15 (by decide) ?_
    exact W.zret (v := 0) hx hb hr rfl (fun t ht hW => ⟨0, rfl, hE.symm.trans hz, ht⟩) (fun _ h => by cases h) d_M_isDay_16
  · rw [if_neg c_1] at hE
    refine lv_iload_n hx hb d_M_isDay_4 rfl (lv_at hl 0 rfl) ?_
    refine lv_sipush (v := 10000) hx hb d_M_isDay_5 (by decide) ?_
    refine lv_icmp_ge (tgt := 15) hx hb d_M_isDay_8 (by decide) (fun c_2 => ?_) (fun c_2 => ?_)
    · rw [if_pos c_2] at hE
      refine lv_iconst (v := 0) hx hb d_M_isDay_15 (by decide) ?_
      exact W.zret (v := 0) hx hb hr rfl (fun t ht hW => ⟨0, rfl, hE.symm.trans hz, ht⟩) (fun _ h => by cases h) d_M_isDay_16
    · rw [if_neg c_2] at hE
      refine lv_iconst (v := 1) hx hb d_M_isDay_11 (by decide) ?_
      refine lv_goto (tgt := 16) hx hb d_M_isDay_12 (by decide) ?_
      exact W.zret (v := 1) hx hb hr rfl (fun t ht hW => ⟨1, rfl, hE.symm.trans hz, ht⟩) (fun _ h => by cases h) d_M_isDay_16
theorem dayM {x : Int32} (c : ¬ g_Mg_isDay x = 0) : 0 ≤ x.toInt ∧ x.toInt < 10000 := by
  unfold g_Mg_isDay at c
  split at c
  · exact absurd rfl c
  · rename_i h1
    split at c
    · exact absurd rfl c
    · rename_i h2
      rw [li_lt, li_0] at h1
      rw [li_le, li_10000] at h2
      omega
theorem inday {x : Int32} (c : ¬ g_Mg_isDay x = 0) : vp_in x 10000 := by
  have := dayM c
  rw [vp_in_iff]; omega
def g_Mg_isPerson (p0 : Int32) : Int32 :=
  if p0 < 0 then
    0
  else
    if 50 ≤ p0 then
      0
    else
      1
set_option maxHeartbeats 4000000 in
set_option maxRecDepth 100000 in
theorem c_Mg_isPerson (l : Launch) (dC : Nat → ClassId) (dI : Nat → Nat → Nat) (adK adV : Nat → Nat) (p0 : Int32) : Met l y_M_isPerson ws_M_isPerson ({ frames := 0, cells := 0, slots := 0, locals := 0 }) (va_Pc [.int p0] (fun U => zz adK adV (fun _ => False) U ∧ va_P (dC, dI) vwCl [] U.heap ∧ va_K (dC, dI) vwCl [] U)) (vp_Si (fun r => r = g_Mg_isPerson p0)) 0 0 (fun _ => False) := by
  refine Met.ofW (cc := c_M_isPerson) (maxL := 1) (ret := (some .boolean)) (by decide) rfl ?_
  intro p e s m args below meth c s₁ B hml hv
  obtain ⟨rfl, hZ, hP, hK⟩ := hv
  have hx := B.exec
  have hb := B.bytes
  have hr := B.returns
  have hts0 := atoms_spec (ws := ws_M_isPerson) B.pre
  have hts : ∀ w ∈ TT, w.before _ s = true := fun w h => hts0 w (List.mem_cons_of_mem _ h)
  have hown : s.vm.findClass "LoanRulesModel" = some m.cls := findClass_of_methodNamed B.named
  have hlocks := B.notSynchronized
  have hS : va_S (fun _ => False) s.heap s.heap [] := va_S.rf
  replace hP : va_P (dC, dI) vwCl [] s.heap := hP
  have hl := lv_entry ([.int p0]) (n := 1) (Nat.le_of_ble_eq_true rfl)
  rw [lg_entry_eq]
  generalize (lg_sl ([.int p0]) ++ List.replicate (1 - (lg_sl ([.int p0])).length) Slot.unset).toArray = ls at hl ⊢
  replace hl : lv_has ls 1 [(0, .int p0)] := hl
  obtain ⟨z, hz⟩ : ∃ z, z = g_Mg_isPerson p0 := ⟨_, rfl⟩
  have hE := hz
  rw [g_Mg_isPerson] at hE
  refine lv_iload_n hx hb d_M_isPerson_0 rfl (lv_at hl 0 rfl) ?_
  refine lv_if_lt (tgt := 14) hx hb d_M_isPerson_1 (by decide) (fun c_1 => ?_) (fun c_1 => ?_)
  · rw [if_pos c_1] at hE
    refine lv_iconst (v := 0) hx hb d_M_isPerson_14 (by decide) ?_
    exact W.zret (v := 0) hx hb hr rfl (fun t ht hW => ⟨0, rfl, hE.symm.trans hz, ht⟩) (fun _ h => by cases h) d_M_isPerson_15
  · rw [if_neg c_1] at hE
    refine lv_iload_n hx hb d_M_isPerson_4 rfl (lv_at hl 0 rfl) ?_
    refine lv_bipush (v := 50) hx hb d_M_isPerson_5 (by decide) ?_
    refine lv_icmp_ge (tgt := 14) hx hb d_M_isPerson_7 (by decide) (fun c_2 => ?_) (fun c_2 => ?_)
    · rw [if_pos c_2] at hE
      refine lv_iconst (v := 0) hx hb d_M_isPerson_14 (by decide) ?_
      exact W.zret (v := 0) hx hb hr rfl (fun t ht hW => ⟨0, rfl, hE.symm.trans hz, ht⟩) (fun _ h => by cases h) d_M_isPerson_15
    · rw [if_neg c_2] at hE
      refine lv_iconst (v := 1) hx hb d_M_isPerson_10 (by decide) ?_
      refine lv_goto (tgt := 15) hx hb d_M_isPerson_11 (by decide) ?_
      exact W.zret (v := 1) hx hb hr rfl (fun t ht hW => ⟨1, rfl, hE.symm.trans hz, ht⟩) (fun _ h => by cases h) d_M_isPerson_15
theorem persM {x : Int32} (c : ¬ g_Mg_isPerson x = 0) : 0 ≤ x.toInt ∧ x.toInt < 50 := by
  unfold g_Mg_isPerson at c
  have e50 : (50 : Int32).toInt = 50 := by decide
  split at c
  · exact absurd rfl c
  · rename_i h1
    split at c
    · exact absurd rfl c
    · rename_i h2
      rw [li_lt, li_0] at h1
      rw [li_le, e50] at h2
      omega
def g_Mg_isDigit (p0 : Int32) : Int32 :=
  if p0 < 48 then
    0
  else
    if 57 < p0 then
      0
    else
      1
set_option maxHeartbeats 4000000 in
set_option maxRecDepth 100000 in
theorem c_Mg_isDigit (l : Launch) (dC : Nat → ClassId) (dI : Nat → Nat → Nat) (adK adV : Nat → Nat) (p0 : Int32) : Met l y_M_isDigit ws_M_isDigit ({ frames := 0, cells := 0, slots := 0, locals := 0 }) (va_Pc [.int p0] (fun U => zz adK adV (fun _ => False) U ∧ va_P (dC, dI) vwCl [] U.heap ∧ va_K (dC, dI) vwCl [] U)) (vp_Si (fun r => r = g_Mg_isDigit p0)) 0 0 (fun _ => False) := by
  refine Met.ofW (cc := c_M_isDigit) (maxL := 1) (ret := (some .boolean)) (by decide) rfl ?_
  intro p e s m args below meth c s₁ B hml hv
  obtain ⟨rfl, hZ, hP, hK⟩ := hv
  have hx := B.exec
  have hb := B.bytes
  have hr := B.returns
  have hts0 := atoms_spec (ws := ws_M_isDigit) B.pre
  have hts : ∀ w ∈ TT, w.before _ s = true := fun w h => hts0 w (List.mem_cons_of_mem _ h)
  have hown : s.vm.findClass "LoanRulesModel" = some m.cls := findClass_of_methodNamed B.named
  have hlocks := B.notSynchronized
  have hS : va_S (fun _ => False) s.heap s.heap [] := va_S.rf
  replace hP : va_P (dC, dI) vwCl [] s.heap := hP
  have hl := lv_entry ([.int p0]) (n := 1) (Nat.le_of_ble_eq_true rfl)
  rw [lg_entry_eq]
  generalize (lg_sl ([.int p0]) ++ List.replicate (1 - (lg_sl ([.int p0])).length) Slot.unset).toArray = ls at hl ⊢
  replace hl : lv_has ls 1 [(0, .int p0)] := hl
  obtain ⟨z, hz⟩ : ∃ z, z = g_Mg_isDigit p0 := ⟨_, rfl⟩
  have hE := hz
  rw [g_Mg_isDigit] at hE
  refine lv_iload_n hx hb d_M_isDigit_0 rfl (lv_at hl 0 rfl) ?_
  refine lv_bipush (v := 48) hx hb d_M_isDigit_1 (by decide) ?_
  refine lv_icmp_lt (tgt := 16) hx hb d_M_isDigit_3 (by decide) (fun c_1 => ?_) (fun c_1 => ?_)
  · rw [if_pos c_1] at hE
    refine lv_iconst (v := 0) hx hb d_M_isDigit_16 (by decide) ?_
    exact W.zret (v := 0) hx hb hr rfl (fun t ht hW => ⟨0, rfl, hE.symm.trans hz, ht⟩) (fun _ h => by cases h) d_M_isDigit_17
  · rw [if_neg c_1] at hE
    refine lv_iload_n hx hb d_M_isDigit_6 rfl (lv_at hl 0 rfl) ?_
    refine lv_bipush (v := 57) hx hb d_M_isDigit_7 (by decide) ?_
    refine lv_icmp_gt (tgt := 16) hx hb d_M_isDigit_9 (by decide) (fun c_2 => ?_) (fun c_2 => ?_)
    · rw [if_pos c_2] at hE
      refine lv_iconst (v := 0) hx hb d_M_isDigit_16 (by decide) ?_
      exact W.zret (v := 0) hx hb hr rfl (fun t ht hW => ⟨0, rfl, hE.symm.trans hz, ht⟩) (fun _ h => by cases h) d_M_isDigit_17
    · rw [if_neg c_2] at hE
      refine lv_iconst (v := 1) hx hb d_M_isDigit_12 (by decide) ?_
      refine lv_goto (tgt := 17) hx hb d_M_isDigit_13 (by decide) ?_
      exact W.zret (v := 1) hx hb hr rfl (fun t ht hW => ⟨1, rfl, hE.symm.trans hz, ht⟩) (fun _ h => by cases h) d_M_isDigit_17
def g_Mg_step (p0 : Int64) : Int32 :=
  if (lg_cmp p0 370116) = 0 then
    1
  else
    if (lg_cmp p0 681477) = 0 then
      2
    else
      if (lg_cmp p0 542723566) = 0 then
        3
      else
        if (lg_cmp p0 398788) = 0 then
          4
        else
          if (lg_cmp p0 609441381) = 0 then
            5
          else
            if (lg_cmp p0 197932) = 0 then
              6
            else
              if (lg_cmp p0 19052727) = 0 then
                7
              else
                if (lg_cmp p0 7216) = 0 then
                  8
                else
                  if (lg_cmp p0 609322380) = 0 then
                    9
                  else
                    if (lg_cmp p0 591307) = 0 then
                      10
                    else
                      0
set_option maxHeartbeats 4000000 in
set_option maxRecDepth 100000 in
theorem c_Mg_step (l : Launch) (dC : Nat → ClassId) (dI : Nat → Nat → Nat) (adK adV : Nat → Nat) (p0 : Int64) : Met l y_M_step ws_M_step ({ frames := 0, cells := 0, slots := 0, locals := 0 }) (va_Pc [.long p0] (fun U => zz adK adV (fun _ => False) U ∧ va_P (dC, dI) vwCl [] U.heap ∧ va_K (dC, dI) vwCl [] U)) (vp_Si (fun r => r = g_Mg_step p0)) 0 0 (fun _ => False) := by
  refine Met.ofW (cc := c_M_step) (maxL := 2) (ret := (some .int)) (by decide) rfl ?_
  intro p e s m args below meth c s₁ B hml hv
  obtain ⟨rfl, hZ, hP, hK⟩ := hv
  have hx := B.exec
  have hb := B.bytes
  have hr := B.returns
  have hts0 := atoms_spec (ws := ws_M_step) B.pre
  have hts : ∀ w ∈ TT, w.before _ s = true := fun w h => hts0 w (List.mem_cons_of_mem _ h)
  have hown : s.vm.findClass "LoanRulesModel" = some m.cls := findClass_of_methodNamed B.named
  have hlocks := B.notSynchronized
  have hS : va_S (fun _ => False) s.heap s.heap [] := va_S.rf
  replace hP : va_P (dC, dI) vwCl [] s.heap := hP
  have hl := lv_entry ([.long p0]) (n := 2) (Nat.le_of_ble_eq_true rfl)
  rw [lg_entry_eq]
  generalize (lg_sl ([.long p0]) ++ List.replicate (2 - (lg_sl ([.long p0])).length) Slot.unset).toArray = ls at hl ⊢
  replace hl : lv_has ls 2 [(0, .long p0)] := hl
  obtain ⟨z, hz⟩ : ∃ z, z = g_Mg_step p0 := ⟨_, rfl⟩
  have hE := hz
  rw [g_Mg_step] at hE
  refine lv_lload_n hx hb d_M_step_0 rfl (lv_at hl 0 rfl) ?_
  refine lv_ldc2 (v := 370116) hx hb hown (hts _ tw_702) d_M_step_1 ?_
  refine W.lcmp hx hb d_M_step_4 ?_
  refine lv_if_ne (tgt := 12) hx hb d_M_step_5 (by decide) (fun c_1 => ?_) (fun c_1 => ?_)
  · rw [if_neg c_1] at hE
    refine lv_lload_n hx hb d_M_step_12 rfl (lv_at hl 0 rfl) ?_
    refine lv_ldc2 (v := 681477) hx hb hown (hts _ tw_703) d_M_step_13 ?_
    refine W.lcmp hx hb d_M_step_16 ?_
    refine lv_if_ne (tgt := 24) hx hb d_M_step_17 (by decide) (fun c_2 => ?_) (fun c_2 => ?_)
    · rw [if_neg c_2] at hE
      refine lv_lload_n hx hb d_M_step_24 rfl (lv_at hl 0 rfl) ?_
      refine lv_ldc2 (v := 542723566) hx hb hown (hts _ tw_704) d_M_step_25 ?_
      refine W.lcmp hx hb d_M_step_28 ?_
      refine lv_if_ne (tgt := 36) hx hb d_M_step_29 (by decide) (fun c_3 => ?_) (fun c_3 => ?_)
      · rw [if_neg c_3] at hE
        refine lv_lload_n hx hb d_M_step_36 rfl (lv_at hl 0 rfl) ?_
        refine lv_ldc2 (v := 398788) hx hb hown (hts _ tw_705) d_M_step_37 ?_
        refine W.lcmp hx hb d_M_step_40 ?_
        refine lv_if_ne (tgt := 48) hx hb d_M_step_41 (by decide) (fun c_4 => ?_) (fun c_4 => ?_)
        · rw [if_neg c_4] at hE
          refine lv_lload_n hx hb d_M_step_48 rfl (lv_at hl 0 rfl) ?_
          refine lv_ldc2 (v := 609441381) hx hb hown (hts _ tw_706) d_M_step_49 ?_
          refine W.lcmp hx hb d_M_step_52 ?_
          refine lv_if_ne (tgt := 60) hx hb d_M_step_53 (by decide) (fun c_5 => ?_) (fun c_5 => ?_)
          · rw [if_neg c_5] at hE
            refine lv_lload_n hx hb d_M_step_60 rfl (lv_at hl 0 rfl) ?_
            refine lv_ldc2 (v := 197932) hx hb hown (hts _ tw_707) d_M_step_61 ?_
            refine W.lcmp hx hb d_M_step_64 ?_
            refine lv_if_ne (tgt := 73) hx hb d_M_step_65 (by decide) (fun c_6 => ?_) (fun c_6 => ?_)
            · rw [if_neg c_6] at hE
              refine lv_lload_n hx hb d_M_step_73 rfl (lv_at hl 0 rfl) ?_
              refine lv_ldc2 (v := 19052727) hx hb hown (hts _ tw_708) d_M_step_74 ?_
              refine W.lcmp hx hb d_M_step_77 ?_
              refine lv_if_ne (tgt := 86) hx hb d_M_step_78 (by decide) (fun c_7 => ?_) (fun c_7 => ?_)
              · rw [if_neg c_7] at hE
                refine lv_lload_n hx hb d_M_step_86 rfl (lv_at hl 0 rfl) ?_
                refine lv_ldc2 (v := 7216) hx hb hown (hts _ tw_709) d_M_step_87 ?_
                refine W.lcmp hx hb d_M_step_90 ?_
                refine lv_if_ne (tgt := 99) hx hb d_M_step_91 (by decide) (fun c_8 => ?_) (fun c_8 => ?_)
                · rw [if_neg c_8] at hE
                  refine lv_lload_n hx hb d_M_step_99 rfl (lv_at hl 0 rfl) ?_
                  refine lv_ldc2 (v := 609322380) hx hb hown (hts _ tw_710) d_M_step_100 ?_
                  refine W.lcmp hx hb d_M_step_103 ?_
                  refine lv_if_ne (tgt := 112) hx hb d_M_step_104 (by decide) (fun c_9 => ?_) (fun c_9 => ?_)
                  · rw [if_neg c_9] at hE
                    refine lv_lload_n hx hb d_M_step_112 rfl (lv_at hl 0 rfl) ?_
                    refine lv_ldc2 (v := 591307) hx hb hown (hts _ tw_711) d_M_step_113 ?_
                    refine W.lcmp hx hb d_M_step_116 ?_
                    refine lv_if_ne (tgt := 125) hx hb d_M_step_117 (by decide) (fun c_10 => ?_) (fun c_10 => ?_)
                    · rw [if_neg c_10] at hE
                      refine lv_iconst (v := 0) hx hb d_M_step_125 (by decide) ?_
                      exact W.iret (v := 0) hx hb hr (fun t ht hW => ⟨0, rfl, hE.symm.trans hz, ht⟩) (fun _ h => by cases h) d_M_step_126
                    · rw [if_pos c_10] at hE
                      refine lv_bipush (v := 10) hx hb d_M_step_120 (by decide) ?_
                      refine lv_goto (tgt := 126) hx hb d_M_step_122 (by decide) ?_
                      exact W.iret (v := 10) hx hb hr (fun t ht hW => ⟨10, rfl, hE.symm.trans hz, ht⟩) (fun _ h => by cases h) d_M_step_126
                  · rw [if_pos c_9] at hE
                    refine lv_bipush (v := 9) hx hb d_M_step_107 (by decide) ?_
                    refine lv_goto (tgt := 126) hx hb d_M_step_109 (by decide) ?_
                    exact W.iret (v := 9) hx hb hr (fun t ht hW => ⟨9, rfl, hE.symm.trans hz, ht⟩) (fun _ h => by cases h) d_M_step_126
                · rw [if_pos c_8] at hE
                  refine lv_bipush (v := 8) hx hb d_M_step_94 (by decide) ?_
                  refine lv_goto (tgt := 126) hx hb d_M_step_96 (by decide) ?_
                  exact W.iret (v := 8) hx hb hr (fun t ht hW => ⟨8, rfl, hE.symm.trans hz, ht⟩) (fun _ h => by cases h) d_M_step_126
              · rw [if_pos c_7] at hE
                refine lv_bipush (v := 7) hx hb d_M_step_81 (by decide) ?_
                refine lv_goto (tgt := 126) hx hb d_M_step_83 (by decide) ?_
                exact W.iret (v := 7) hx hb hr (fun t ht hW => ⟨7, rfl, hE.symm.trans hz, ht⟩) (fun _ h => by cases h) d_M_step_126
            · rw [if_pos c_6] at hE
              refine lv_bipush (v := 6) hx hb d_M_step_68 (by decide) ?_
              refine lv_goto (tgt := 126) hx hb d_M_step_70 (by decide) ?_
              exact W.iret (v := 6) hx hb hr (fun t ht hW => ⟨6, rfl, hE.symm.trans hz, ht⟩) (fun _ h => by cases h) d_M_step_126
          · rw [if_pos c_5] at hE
            refine lv_iconst (v := 5) hx hb d_M_step_56 (by decide) ?_
            refine lv_goto (tgt := 126) hx hb d_M_step_57 (by decide) ?_
            exact W.iret (v := 5) hx hb hr (fun t ht hW => ⟨5, rfl, hE.symm.trans hz, ht⟩) (fun _ h => by cases h) d_M_step_126
        · rw [if_pos c_4] at hE
          refine lv_iconst (v := 4) hx hb d_M_step_44 (by decide) ?_
          refine lv_goto (tgt := 126) hx hb d_M_step_45 (by decide) ?_
          exact W.iret (v := 4) hx hb hr (fun t ht hW => ⟨4, rfl, hE.symm.trans hz, ht⟩) (fun _ h => by cases h) d_M_step_126
      · rw [if_pos c_3] at hE
        refine lv_iconst (v := 3) hx hb d_M_step_32 (by decide) ?_
        refine lv_goto (tgt := 126) hx hb d_M_step_33 (by decide) ?_
        exact W.iret (v := 3) hx hb hr (fun t ht hW => ⟨3, rfl, hE.symm.trans hz, ht⟩) (fun _ h => by cases h) d_M_step_126
    · rw [if_pos c_2] at hE
      refine lv_iconst (v := 2) hx hb d_M_step_20 (by decide) ?_
      refine lv_goto (tgt := 126) hx hb d_M_step_21 (by decide) ?_
      exact W.iret (v := 2) hx hb hr (fun t ht hW => ⟨2, rfl, hE.symm.trans hz, ht⟩) (fun _ h => by cases h) d_M_step_126
  · rw [if_pos c_1] at hE
    refine lv_iconst (v := 1) hx hb d_M_step_8 (by decide) ?_
    refine lv_goto (tgt := 126) hx hb d_M_step_9 (by decide) ?_
    exact W.iret (v := 1) hx hb hr (fun t ht hW => ⟨1, rfl, hE.symm.trans hz, ht⟩) (fun _ h => by cases h) d_M_step_126
theorem step_le (w : Int64) : 0 ≤ (g_Mg_step w).toInt ∧ (g_Mg_step w).toInt ≤ 10 := by
  unfold g_Mg_step
  repeat' (first | with_reducible refine pt_i (fun x : Int32 => 0 ≤ x.toInt ∧ x.toInt ≤ 10) (fun _ => ?_) (fun _ => ?_))
  all_goals decide
def gl_open : Nat → (Nat → Int32) → (Int32) → Int32
  | 0, f_cl, x => x
  | n + 1, f_cl, x =>
    if 10000 ≤ x then
      x
    else
      if (f_cl x.toNatClampNeg) = 0 then
        x
      else
        gl_open n f_cl (x + 1)
def g_Mg_open (p0 : Int32) (f_cl : Nat → Int32) : Int32 :=
  bv (gl_open 20001 f_cl p0) (fun x_1 =>
    if 10000 ≤ x_1 then
      (-1)
    else
      x_1)
set_option maxHeartbeats 4000000 in
set_option maxRecDepth 100000 in
theorem c_Mg_open (l : Launch) (dC : Nat → ClassId) (dI : Nat → Nat → Nat) (adK adV : Nat → Nat) (a_m : Nat) (a_cl : Nat) (k_cl : ClassId) (p0 : Int32) (v_th : Int32) (a_sa : Nat) (v_sz : Int32) (v_at : Int32) (v_wr : Int32) (a_ru : Nat) (a_me : Nat) (a_le : Nat) (v_n : Int32) (a_te : Nat) (a_ki : Nat) (a_ty : Nat) (a_bl : Nat) (a_ex : Nat) (a_lo : Nat) (v_nl : Int32) (a_ho : Nat) (a_fi : Nat) (v_nf : Int32) (a_cz : Nat) (v_nc : Int32) (f_cl : Nat → Int32) (hp0 : 0 ≤ p0.toInt ∧ p0.toInt < 20000) : Met l y_M_open ws_M_open ({ frames := 0, cells := 0, slots := 0, locals := 0 }) (va_Pc [.ref a_m, .int p0] (fun U => zz adK adV (fun _ => False) U ∧ va_P (dC, dI) vwCl [(a_m, .inr (5, [.int v_th, .ref a_sa, .int v_sz, .int v_at, .int v_wr, .ref a_ru, .ref a_me, .ref a_le, .int v_n, .ref a_cl, .ref a_te, .ref a_ki, .ref a_ty, .ref a_bl, .ref a_ex, .ref a_lo, .int v_nl, .ref a_ho, .ref a_fi, .int v_nf, .ref a_cz, .int v_nc])), (a_cl, .inl (k_cl, 10000, .inl f_cl))] U.heap ∧ va_K (dC, dI) vwCl [(k_cl, .boolean)] U)) (vp_Si (fun r => r = g_Mg_open p0 f_cl)) 0 0 (fun _ => False) := by
  refine Met.ofW (cc := c_M_open) (maxL := 3) (ret := (some .int)) (by decide) rfl ?_
  intro p e s m args below meth c s₁ B hml hv
  obtain ⟨rfl, hZ, hP, hK⟩ := hv
  have hx := B.exec
  have hb := B.bytes
  have hr := B.returns
  have hts0 := atoms_spec (ws := ws_M_open) B.pre
  have hts : ∀ w ∈ TT, w.before _ s = true := fun w h => hts0 w (List.mem_cons_of_mem _ h)
  have hown : s.vm.findClass "LoanRulesModel" = some m.cls := findClass_of_methodNamed B.named
  have hlocks := B.notSynchronized
  have hS : va_S (fun _ => False) s.heap s.heap [] := va_S.rf
  replace hP : va_P (dC, dI) vwCl [(a_m, .inr (5, [.int v_th, .ref a_sa, .int v_sz, .int v_at, .int v_wr, .ref a_ru, .ref a_me, .ref a_le, .int v_n, .ref a_cl, .ref a_te, .ref a_ki, .ref a_ty, .ref a_bl, .ref a_ex, .ref a_lo, .int v_nl, .ref a_ho, .ref a_fi, .int v_nf, .ref a_cz, .int v_nc])), (a_cl, .inl (k_cl, 10000, .inl f_cl))] s.heap := hP
  have hl := lv_entry ([.ref a_m, .int p0]) (n := 3) (Nat.le_of_ble_eq_true rfl)
  rw [lg_entry_eq]
  generalize (lg_sl ([.ref a_m, .int p0]) ++ List.replicate (3 - (lg_sl ([.ref a_m, .int p0])).length) Slot.unset).toArray = ls at hl ⊢
  replace hl : lv_has ls 3 [(0, .ref a_m), (1, .int p0)] := hl
  obtain ⟨z, hz⟩ : ∃ z, z = g_Mg_open p0 f_cl := ⟨_, rfl⟩
  have hE := hz
  rw [g_Mg_open] at hE
  refine lv_iload_n hx hb d_M_open_0 rfl (lv_at hl 1 rfl) ?_
  refine lv_istore_n (lv' := [(2, .int p0), (0, .ref a_m), (1, .int p0)]) hx hb d_M_open_1 rfl hl (by decide) rfl (fun ls hl => ?_)
  generalize hg_x_1 : gl_open 20001 f_cl p0 = x_1 at hE
  rw [bv_eq] at hE
  obtain ⟨x, e_x⟩ : ∃ q9 : Int32, q9 = p0 := ⟨_, rfl⟩
  obtain ⟨n, e_n⟩ : ∃ q9 : Nat, q9 = 20001 := ⟨_, rfl⟩
  have hAll : va_P (dC, dI) vwCl [(a_m, .inr (5, [.int v_th, .ref a_sa, .int v_sz, .int v_at, .int v_wr, .ref a_ru, .ref a_me, .ref a_le, .int v_n, .ref a_cl, .ref a_te, .ref a_ki, .ref a_ty, .ref a_bl, .ref a_ex, .ref a_lo, .int v_nl, .ref a_ho, .ref a_fi, .int v_nf, .ref a_cz, .int v_nc])), (a_cl, .inl (k_cl, 10000, .inl f_cl))] s.heap ∧ lv_has ls 3 [(2, .int x), (0, .ref a_m), (1, .int p0)] ∧ (0 ≤ x.toInt ∧ x.toInt < 20000) ∧ 20001 - x.toInt.toNat ≤ n ∧ gl_open n f_cl x = x_1 := by
    subst e_x e_n
    exact ⟨hP, hl, hp0, by omega, hg_x_1⟩
  clear hP hl e_x e_n hg_x_1
  induction n generalizing x ls with
  | zero =>
    obtain ⟨hP, hl, hx0, hm_open, hg_open⟩ := hAll
    exfalso; omega
  | succ n ih_open =>
    obtain ⟨hP, hl, hx0, hm_open, hg_open⟩ := hAll
    rw [gl_open] at hg_open
    refine lv_iload_n hx hb d_M_open_2 rfl (lv_at hl 0 rfl) ?_
    refine lv_sipush (v := 10000) hx hb d_M_open_3 (by decide) ?_
    refine lv_icmp_ge (tgt := 24) hx hb d_M_open_6 (by decide) (fun c_2 => ?_) (fun c_2 => ?_)
    · rw [if_pos c_2] at hg_open
      subst hg_open
      refine lv_iload_n hx hb d_M_open_24 rfl (lv_at hl 0 rfl) ?_
      refine lv_sipush (v := 10000) hx hb d_M_open_25 (by decide) ?_
      refine lv_icmp_ge (tgt := 35) hx hb d_M_open_28 (by decide) (fun c_3 => ?_) (fun c_3 => ?_)
      · rw [if_pos c_3] at hE
        refine lv_iconst (v := (-1)) hx hb d_M_open_35 (by decide) ?_
        exact W.iret (v := (-1)) hx hb hr (fun t ht hW => ⟨(-1), rfl, hE.symm.trans hz, ht⟩) (fun _ h => by cases h) d_M_open_36
      · rw [if_neg c_3] at hE
        refine lv_iload_n hx hb d_M_open_31 rfl (lv_at hl 0 rfl) ?_
        refine lv_goto (tgt := 36) hx hb d_M_open_32 (by decide) ?_
        exact W.iret (v := x) hx hb hr (fun t ht hW => ⟨x, rfl, hE.symm.trans hz, ht⟩) (fun _ h => by cases h) d_M_open_36
    · rw [if_neg c_2] at hg_open
      refine lv_aload_n hx hb d_M_open_9 rfl (lv_at hl 1 rfl) ?_
      refine va_get (D := (dC, dI)) (ci := 5) (v := .ref a_cl) (C := "LoanRulesModel") (T := Fz_M) (N := 22) hx hb hts it_M hown hK hP 0 rfl rfl 9 (by decide) (hts _ tw_610) (fun _ h9 => h9) rfl d_M_open_10 ?_
      refine lv_iload_n hx hb d_M_open_13 rfl (lv_at hl 0 rfl) ?_
      have i_4 : vp_in x 10000 := li_in hx0.1 c_2
      refine va_zald (D := (dC, dI)) hx hb hK hP 1 0 rfl rfl i_4 d_M_open_14 ?_
      refine lv_if_eq (tgt := 24) hx hb d_M_open_15 (by decide) (fun c_5 => ?_) (fun c_5 => ?_)
      · rw [if_pos c_5] at hg_open
        subst hg_open
        refine lv_iload_n hx hb d_M_open_24 rfl (lv_at hl 0 rfl) ?_
        refine lv_sipush (v := 10000) hx hb d_M_open_25 (by decide) ?_
        refine lv_icmp_ge (tgt := 35) hx hb d_M_open_28 (by decide) (fun c_6 => ?_) (fun c_6 => ?_)
        · rw [if_pos c_6] at hE
          refine lv_iconst (v := (-1)) hx hb d_M_open_35 (by decide) ?_
          exact W.iret (v := (-1)) hx hb hr (fun t ht hW => ⟨(-1), rfl, hE.symm.trans hz, ht⟩) (fun _ h => by cases h) d_M_open_36
        · rw [if_neg c_6] at hE
          refine lv_iload_n hx hb d_M_open_31 rfl (lv_at hl 0 rfl) ?_
          refine lv_goto (tgt := 36) hx hb d_M_open_32 (by decide) ?_
          exact W.iret (v := x) hx hb hr (fun t ht hW => ⟨x, rfl, hE.symm.trans hz, ht⟩) (fun _ h => by cases h) d_M_open_36
      · rw [if_neg c_5] at hg_open
        refine lv_iinc (v := x + 1) (lv' := [(2, .int (x + 1)), (0, .ref a_m), (1, .int p0)]) hx hb d_M_open_18 hl (k := 0) rfl rfl (by decide) rfl (fun ls hl => ?_)
        refine lv_goto (tgt := 2) hx hb d_M_open_21 (by decide) ?_
        exact ih_open _ _ ⟨hP, lv_sub hl [0, 1, 2] rfl, (li_s0 hx0 c_2), (li_m0 hx0 c_2 hm_open), hg_open⟩
def g_Mg_look (p0 : Int32) (v_sz : Int32) (f_sa : Nat → Int32) : Int32 :=
  if v_sz ≤ p0 then
    (-1)
  else
    (f_sa p0.toNatClampNeg) &&& 255
set_option maxHeartbeats 4000000 in
set_option maxRecDepth 100000 in
theorem c_Mg_look (l : Launch) (dC : Nat → ClassId) (dI : Nat → Nat → Nat) (adK adV : Nat → Nat) (a_m : Nat) (a_sa : Nat) (k_sa : ClassId) (p0 : Int32) (v_th : Int32) (v_sz : Int32) (v_at : Int32) (v_wr : Int32) (a_ru : Nat) (a_me : Nat) (a_le : Nat) (v_n : Int32) (a_cl : Nat) (a_te : Nat) (a_ki : Nat) (a_ty : Nat) (a_bl : Nat) (a_ex : Nat) (a_lo : Nat) (v_nl : Int32) (a_ho : Nat) (a_fi : Nat) (v_nf : Int32) (a_cz : Nat) (v_nc : Int32) (f_sa : Nat → Int32) (hp0 : 0 ≤ p0.toInt) (hsz : 0 ≤ v_sz.toInt ∧ v_sz.toInt ≤ 120) : Met l y_M_look ws_M_look ({ frames := 0, cells := 0, slots := 0, locals := 0 }) (va_Pc [.ref a_m, .int p0] (fun U => zz adK adV (fun _ => False) U ∧ va_P (dC, dI) vwCl [(a_m, .inr (5, [.int v_th, .ref a_sa, .int v_sz, .int v_at, .int v_wr, .ref a_ru, .ref a_me, .ref a_le, .int v_n, .ref a_cl, .ref a_te, .ref a_ki, .ref a_ty, .ref a_bl, .ref a_ex, .ref a_lo, .int v_nl, .ref a_ho, .ref a_fi, .int v_nf, .ref a_cz, .int v_nc])), (a_sa, .inl (k_sa, 120, .inl f_sa))] U.heap ∧ va_K (dC, dI) vwCl [(k_sa, .byte)] U)) (vp_Si (fun r => r = g_Mg_look p0 v_sz f_sa)) 0 0 (fun _ => False) := by
  refine Met.ofW (cc := c_M_look) (maxL := 2) (ret := (some .int)) (by decide) rfl ?_
  intro p e s m args below meth c s₁ B hml hv
  obtain ⟨rfl, hZ, hP, hK⟩ := hv
  have hx := B.exec
  have hb := B.bytes
  have hr := B.returns
  have hts0 := atoms_spec (ws := ws_M_look) B.pre
  have hts : ∀ w ∈ TT, w.before _ s = true := fun w h => hts0 w (List.mem_cons_of_mem _ h)
  have hown : s.vm.findClass "LoanRulesModel" = some m.cls := findClass_of_methodNamed B.named
  have hlocks := B.notSynchronized
  have hS : va_S (fun _ => False) s.heap s.heap [] := va_S.rf
  replace hP : va_P (dC, dI) vwCl [(a_m, .inr (5, [.int v_th, .ref a_sa, .int v_sz, .int v_at, .int v_wr, .ref a_ru, .ref a_me, .ref a_le, .int v_n, .ref a_cl, .ref a_te, .ref a_ki, .ref a_ty, .ref a_bl, .ref a_ex, .ref a_lo, .int v_nl, .ref a_ho, .ref a_fi, .int v_nf, .ref a_cz, .int v_nc])), (a_sa, .inl (k_sa, 120, .inl f_sa))] s.heap := hP
  have hl := lv_entry ([.ref a_m, .int p0]) (n := 2) (Nat.le_of_ble_eq_true rfl)
  rw [lg_entry_eq]
  generalize (lg_sl ([.ref a_m, .int p0]) ++ List.replicate (2 - (lg_sl ([.ref a_m, .int p0])).length) Slot.unset).toArray = ls at hl ⊢
  replace hl : lv_has ls 2 [(0, .ref a_m), (1, .int p0)] := hl
  obtain ⟨z, hz⟩ : ∃ z, z = g_Mg_look p0 v_sz f_sa := ⟨_, rfl⟩
  have hE := hz
  rw [g_Mg_look] at hE
  refine lv_iload_n hx hb d_M_look_0 rfl (lv_at hl 1 rfl) ?_
  refine lv_aload_n hx hb d_M_look_1 rfl (lv_at hl 0 rfl) ?_
  refine va_get (D := (dC, dI)) (ci := 5) (v := .int v_sz) (C := "LoanRulesModel") (T := Fz_M) (N := 22) hx hb hts it_M hown hK hP 0 rfl rfl 2 (by decide) (hts _ tw_603) (fun _ h9 => h9) rfl d_M_look_2 ?_
  refine lv_icmp_ge (tgt := 21) hx hb d_M_look_5 (by decide) (fun c_1 => ?_) (fun c_1 => ?_)
  · rw [if_pos c_1] at hE
    refine lv_iconst (v := (-1)) hx hb d_M_look_21 (by decide) ?_
    exact W.iret (v := (-1)) hx hb hr (fun t ht hW => ⟨(-1), rfl, hE.symm.trans hz, ht⟩) (fun _ h => by cases h) d_M_look_22
  · rw [if_neg c_1] at hE
    refine lv_aload_n hx hb d_M_look_8 rfl (lv_at hl 0 rfl) ?_
    refine va_get (D := (dC, dI)) (ci := 5) (v := .ref a_sa) (C := "LoanRulesModel") (T := Fz_M) (N := 22) hx hb hts it_M hown hK hP 0 rfl rfl 1 (by decide) (hts _ tw_602) (fun _ h9 => h9) rfl d_M_look_9 ?_
    refine lv_iload_n hx hb d_M_look_12 rfl (lv_at hl 1 rfl) ?_
    have i_2 : vp_in p0 120 := li_in3 hp0 c_1 hsz.2
    refine va_bald (D := (dC, dI)) hx hb hK hP 1 0 rfl rfl i_2 d_M_look_13 ?_
    refine lv_sipush (v := 255) hx hb d_M_look_14 (by decide) ?_
    refine lv_iand hx hb d_M_look_17 ?_
    refine lv_goto (tgt := 22) hx hb d_M_look_18 (by decide) ?_
    exact W.iret (v := (f_sa p0.toNatClampNeg) &&& 255) hx hb hr (fun t ht hW => ⟨(f_sa p0.toNatClampNeg) &&& 255, rfl, hE.symm.trans hz, ht⟩) (fun _ h => by cases h) d_M_look_22
theorem lk_look {k sz : Int32} {f : Nat → Int32} (c : ¬ g_Mg_look k sz f < 97) : k.toInt < sz.toInt := by
  unfold g_Mg_look at c
  split at c
  · exact absurd (by decide) c
  · rename_i h
    rw [li_le] at h
    omega
theorem lk_look2 {k sz : Int32} {f : Nat → Int32} {x : Int32} (hx : ¬ x = -1) (c : g_Mg_look k sz f = x) : k.toInt < sz.toInt := by
  unfold g_Mg_look at c
  split at c
  · exact absurd c.symm hx
  · rename_i h
    rw [li_le] at h
    omega
set_option maxHeartbeats 4000000 in
set_option maxRecDepth 100000 in
theorem c_Mg_bad (l : Launch) (dC : Nat → ClassId) (dI : Nat → Nat → Nat) (adK adV : Nat → Nat) (a_m : Nat) (p0 : Int32) (v_th : Int32) (a_sa : Nat) (v_sz : Int32) (v_at : Int32) (v_wr : Int32) (a_ru : Nat) (a_me : Nat) (a_le : Nat) (v_n : Int32) (a_cl : Nat) (a_te : Nat) (a_ki : Nat) (a_ty : Nat) (a_bl : Nat) (a_ex : Nat) (a_lo : Nat) (v_nl : Int32) (a_ho : Nat) (a_fi : Nat) (v_nf : Int32) (a_cz : Nat) (v_nc : Int32) (sz : Nat) : Met l y_M_bad ws_M_bad ({ frames := 0, cells := 0, slots := 0, locals := 0 }) (va_Pc [.ref a_m, .int p0] (fun U => U.heap.size = sz ∧ zz adK adV (va_A [(a_m, .inr (5, [.int v_th, .ref a_sa, .int v_sz, .int v_at, .int v_wr, .ref a_ru, .ref a_me, .ref a_le, .int v_n, .ref a_cl, .ref a_te, .ref a_ki, .ref a_ty, .ref a_bl, .ref a_ex, .ref a_lo, .int v_nl, .ref a_ho, .ref a_fi, .int v_nf, .ref a_cz, .int v_nc]))] sz) U ∧ va_P (dC, dI) vwCl [(a_m, .inr (5, [.int v_th, .ref a_sa, .int v_sz, .int v_at, .int v_wr, .ref a_ru, .ref a_me, .ref a_le, .int v_n, .ref a_cl, .ref a_te, .ref a_ki, .ref a_ty, .ref a_bl, .ref a_ex, .ref a_lo, .int v_nl, .ref a_ho, .ref a_fi, .int v_nf, .ref a_cz, .int v_nc]))] U.heap ∧ va_K (dC, dI) vwCl [] U ∧ va_D (fun _ => True) [(a_m, .inr (5, [.int v_th, .ref a_sa, .int v_sz, .int v_at, .int v_wr, .ref a_ru, .ref a_me, .ref a_le, .int v_n, .ref a_cl, .ref a_te, .ref a_ki, .ref a_ty, .ref a_bl, .ref a_ex, .ref a_lo, .int v_nl, .ref a_ho, .ref a_fi, .int v_nf, .ref a_cz, .int v_nc]))])) (va_Qi (fun (r : Int32) (_ : Unit) => r = 0) (fun (_ : Unit) (t : State) => va_P (dC, dI) vwCl [(a_m, .inr (5, [.int v_th, .ref a_sa, .int v_sz, .int v_at, .int p0, .ref a_ru, .ref a_me, .ref a_le, .int v_n, .ref a_cl, .ref a_te, .ref a_ki, .ref a_ty, .ref a_bl, .ref a_ex, .ref a_lo, .int v_nl, .ref a_ho, .ref a_fi, .int v_nf, .ref a_cz, .int v_nc]))] t.heap ∧ va_K (dC, dI) vwCl [] t ∧ va_D (va_A [(a_m, .inr (5, [.int v_th, .ref a_sa, .int v_sz, .int v_at, .int v_wr, .ref a_ru, .ref a_me, .ref a_le, .int v_n, .ref a_cl, .ref a_te, .ref a_ki, .ref a_ty, .ref a_bl, .ref a_ex, .ref a_lo, .int v_nl, .ref a_ho, .ref a_fi, .int v_nf, .ref a_cz, .int v_nc]))] sz) [(a_m, .inr (5, [.int v_th, .ref a_sa, .int v_sz, .int v_at, .int p0, .ref a_ru, .ref a_me, .ref a_le, .int v_n, .ref a_cl, .ref a_te, .ref a_ki, .ref a_ty, .ref a_bl, .ref a_ex, .ref a_lo, .int v_nl, .ref a_ho, .ref a_fi, .int v_nf, .ref a_cz, .int v_nc]))]) (va_A [(a_m, .inr (5, [.int v_th, .ref a_sa, .int v_sz, .int v_at, .int v_wr, .ref a_ru, .ref a_me, .ref a_le, .int v_n, .ref a_cl, .ref a_te, .ref a_ki, .ref a_ty, .ref a_bl, .ref a_ex, .ref a_lo, .int v_nl, .ref a_ho, .ref a_fi, .int v_nf, .ref a_cz, .int v_nc]))] sz)) 0 0 (va_A [(a_m, .inr (5, [.int v_th, .ref a_sa, .int v_sz, .int v_at, .int v_wr, .ref a_ru, .ref a_me, .ref a_le, .int v_n, .ref a_cl, .ref a_te, .ref a_ki, .ref a_ty, .ref a_bl, .ref a_ex, .ref a_lo, .int v_nl, .ref a_ho, .ref a_fi, .int v_nf, .ref a_cz, .int v_nc]))] sz) := by
  refine Met.ofW (cc := c_M_bad) (maxL := 2) (ret := (some .boolean)) (by decide) rfl ?_
  intro p e s m args below meth c s₁ B hml hv
  obtain ⟨rfl, hsz, hZ, hP, hK, hD0⟩ := hv
  have hx := B.exec
  have hb := B.bytes
  have hr := B.returns
  have hts0 := atoms_spec (ws := ws_M_bad) B.pre
  have hts : ∀ w ∈ TT, w.before _ s = true := fun w h => hts0 w (List.mem_cons_of_mem _ h)
  have hown : s.vm.findClass "LoanRulesModel" = some m.cls := findClass_of_methodNamed B.named
  have hlocks := B.notSynchronized
  subst hsz
  have hD := hD0.self (sz := s.heap.size)
  generalize hAe : va_A [(a_m, .inr (5, [.int v_th, .ref a_sa, .int v_sz, .int v_at, .int v_wr, .ref a_ru, .ref a_me, .ref a_le, .int v_n, .ref a_cl, .ref a_te, .ref a_ki, .ref a_ty, .ref a_bl, .ref a_ex, .ref a_lo, .int v_nl, .ref a_ho, .ref a_fi, .int v_nf, .ref a_cz, .int v_nc]))] s.heap.size = A at hD hZ ⊢
  have hA : ∀ q : Nat, s.heap.size ≤ q → A q := fun q h => by rw [← hAe]; exact Or.inr h
  clear hAe hD0
  have hS : va_S A s.heap s.heap [] := va_S.rf
  replace hP : va_P (dC, dI) vwCl [(a_m, .inr (5, [.int v_th, .ref a_sa, .int v_sz, .int v_at, .int v_wr, .ref a_ru, .ref a_me, .ref a_le, .int v_n, .ref a_cl, .ref a_te, .ref a_ki, .ref a_ty, .ref a_bl, .ref a_ex, .ref a_lo, .int v_nl, .ref a_ho, .ref a_fi, .int v_nf, .ref a_cz, .int v_nc]))] s.heap := hP
  have hl := lv_entry ([.ref a_m, .int p0]) (n := 2) (Nat.le_of_ble_eq_true rfl)
  rw [lg_entry_eq]
  generalize (lg_sl ([.ref a_m, .int p0]) ++ List.replicate (2 - (lg_sl ([.ref a_m, .int p0])).length) Slot.unset).toArray = ls at hl ⊢
  replace hl : lv_has ls 2 [(0, .ref a_m), (1, .int p0)] := hl
  refine lv_aload_n hx hb d_M_bad_0 rfl (lv_at hl 0 rfl) ?_
  refine lv_iload_n hx hb d_M_bad_1 rfl (lv_at hl 1 rfl) ?_
  refine va_put (D := (dC, dI)) (ci := 5) (v := .int p0) (ty := .int) (C := "LoanRulesModel") (T := Fz_M) (N := 22) hx hb hts it_M tz_M tz_M_ok nz_M hown hK hP hD hS 0 rfl rfl 4 (by decide) (hts _ tw_605) (fun _ h9 => h9) rfl (by decide +kernel) rfl rfl (Nat.le_of_ble_eq_true rfl) d_M_bad_2 (fun H locs hP hD hS => ?_)
  replace hP : va_P (dC, dI) vwCl [(a_m, .inr (5, [.int v_th, .ref a_sa, .int v_sz, .int v_at, .int p0, .ref a_ru, .ref a_me, .ref a_le, .int v_n, .ref a_cl, .ref a_te, .ref a_ki, .ref a_ty, .ref a_bl, .ref a_ex, .ref a_lo, .int v_nl, .ref a_ho, .ref a_fi, .int v_nf, .ref a_cz, .int v_nc]))] H := hP
  replace hD : va_D A [(a_m, .inr (5, [.int v_th, .ref a_sa, .int v_sz, .int v_at, .int p0, .ref a_ru, .ref a_me, .ref a_le, .int v_n, .ref a_cl, .ref a_te, .ref a_ki, .ref a_ty, .ref a_bl, .ref a_ex, .ref a_lo, .int v_nl, .ref a_ho, .ref a_fi, .int v_nf, .ref a_cz, .int v_nc]))] := hD
  refine lv_iconst (v := 0) hx hb d_M_bad_5 (by decide) ?_
  have hP9 := hP.sub (ws' := [(a_m, .inr (5, [.int v_th, .ref a_sa, .int v_sz, .int v_at, .int p0, .ref a_ru, .ref a_me, .ref a_le, .int v_n, .ref a_cl, .ref a_te, .ref a_ki, .ref a_ty, .ref a_bl, .ref a_ex, .ref a_lo, .int v_nl, .ref a_ho, .ref a_fi, .int v_nf, .ref a_cz, .int v_nc]))]) [0] rfl
  have hD9 := hD.sub (ws' := [(a_m, .inr (5, [.int v_th, .ref a_sa, .int v_sz, .int v_at, .int p0, .ref a_ru, .ref a_me, .ref a_le, .int v_n, .ref a_cl, .ref a_te, .ref a_ki, .ref a_ty, .ref a_bl, .ref a_ex, .ref a_lo, .int v_nl, .ref a_ho, .ref a_fi, .int v_nf, .ref a_cz, .int v_nc]))]) [0] (by decide) rfl
  have hK9 := hK.sub (tys' := []) [] rfl
  exact W.zret (v := 0) hx hb hr rfl (fun t ht hW => ⟨⟨0, (), rfl, rfl, by rw [ht]; exact hP9, va_K.moved hW.alike hK9, hD9⟩, hS.F ht⟩) hS.2.2 d_M_bad_6
def gl_word : Nat → (Int32) → (Int32) → (Nat → Int32) → (Int64) → (Int32) → Int64 × Int32
  | 0, v_sz, v_at, f_sa, v, k => (v, k)
  | n + 1, v_sz, v_at, f_sa, v, k =>
    if (g_Mg_look k v_sz f_sa) < 97 then
      (v, k)
    else
      if 122 < (g_Mg_look k v_sz f_sa) then
        (v, k)
      else
        if (k - v_at) ≤ 10 then
          gl_word n v_sz v_at f_sa (((v * 32) + ((g_Mg_look k v_sz f_sa).toInt64)) - 96) (k + 1)
        else
          gl_word n v_sz v_at f_sa 1152921504606846976 (k + 1)
def g_Mg_word (v_sz : Int32) (v_at : Int32) (f_sa : Nat → Int32) : Int64 :=
  bv (gl_word 121 v_sz v_at f_sa 0 v_at) (fun x_1 =>
    x_1.1)
set_option maxHeartbeats 4000000 in
set_option maxRecDepth 100000 in
theorem c_Mg_word (l : Launch) (dC : Nat → ClassId) (dI : Nat → Nat → Nat) (adK adV : Nat → Nat) (a_m : Nat) (a_sa : Nat) (k_sa : ClassId) (v_th : Int32) (v_sz : Int32) (v_at : Int32) (v_wr : Int32) (a_ru : Nat) (a_me : Nat) (a_le : Nat) (v_n : Int32) (a_cl : Nat) (a_te : Nat) (a_ki : Nat) (a_ty : Nat) (a_bl : Nat) (a_ex : Nat) (a_lo : Nat) (v_nl : Int32) (a_ho : Nat) (a_fi : Nat) (v_nf : Int32) (a_cz : Nat) (v_nc : Int32) (f_sa : Nat → Int32) (hsz : 0 ≤ v_sz.toInt ∧ v_sz.toInt ≤ 120) (hat : 0 ≤ v_at.toInt ∧ v_at.toInt ≤ 120) : Met l y_M_word ws_M_word ({ frames := 1, cells := 0, slots := 0, locals := 21 }) (va_Pc [.ref a_m] (fun U => zz adK adV (fun _ => False) U ∧ va_P (dC, dI) vwCl [(a_m, .inr (5, [.int v_th, .ref a_sa, .int v_sz, .int v_at, .int v_wr, .ref a_ru, .ref a_me, .ref a_le, .int v_n, .ref a_cl, .ref a_te, .ref a_ki, .ref a_ty, .ref a_bl, .ref a_ex, .ref a_lo, .int v_nl, .ref a_ho, .ref a_fi, .int v_nf, .ref a_cz, .int v_nc])), (a_sa, .inl (k_sa, 120, .inl f_sa))] U.heap ∧ va_K (dC, dI) vwCl [(k_sa, .byte)] U)) (vp_Sl (fun r => r = g_Mg_word v_sz v_at f_sa)) 0 0 (fun _ => False) := by
  refine Met.ofW (cc := c_M_word) (maxL := 4) (ret := (some .long)) (by decide) rfl ?_
  intro p e s m args below meth c s₁ B hml hv
  obtain ⟨rfl, hZ, hP, hK⟩ := hv
  have hx := B.exec
  have hb := B.bytes
  have hr := B.returns
  have hts0 := atoms_spec (ws := ws_M_word) B.pre
  have hts : ∀ w ∈ TT, w.before _ s = true := fun w h => hts0 w (List.mem_cons_of_mem _ h)
  have hown : s.vm.findClass "LoanRulesModel" = some m.cls := findClass_of_methodNamed B.named
  have hlocks := B.notSynchronized
  have hS : va_S (fun _ => False) s.heap s.heap [] := va_S.rf
  replace hP : va_P (dC, dI) vwCl [(a_m, .inr (5, [.int v_th, .ref a_sa, .int v_sz, .int v_at, .int v_wr, .ref a_ru, .ref a_me, .ref a_le, .int v_n, .ref a_cl, .ref a_te, .ref a_ki, .ref a_ty, .ref a_bl, .ref a_ex, .ref a_lo, .int v_nl, .ref a_ho, .ref a_fi, .int v_nf, .ref a_cz, .int v_nc])), (a_sa, .inl (k_sa, 120, .inl f_sa))] s.heap := hP
  have hl := lv_entry ([.ref a_m]) (n := 4) (Nat.le_of_ble_eq_true rfl)
  rw [lg_entry_eq]
  generalize (lg_sl ([.ref a_m]) ++ List.replicate (4 - (lg_sl ([.ref a_m])).length) Slot.unset).toArray = ls at hl ⊢
  replace hl : lv_has ls 4 [(0, .ref a_m)] := hl
  obtain ⟨z, hz⟩ : ∃ z, z = g_Mg_word v_sz v_at f_sa := ⟨_, rfl⟩
  have hE := hz
  rw [g_Mg_word] at hE
  refine lv_lconst (v := 0) hx hb d_M_word_0 rfl ?_
  refine lv_lstore_n (lv' := [(1, .long 0), (0, .ref a_m)]) hx hb d_M_word_1 rfl hl (by decide) rfl (fun ls hl => ?_)
  refine lv_aload_n hx hb d_M_word_2 rfl (lv_at hl 1 rfl) ?_
  refine va_get (D := (dC, dI)) (ci := 5) (v := .int v_at) (C := "LoanRulesModel") (T := Fz_M) (N := 22) hx hb hts it_M hown hK hP 0 rfl rfl 3 (by decide) (hts _ tw_604) (fun _ h9 => h9) rfl d_M_word_3 ?_
  refine lv_istore_n (lv' := [(3, .int v_at), (1, .long 0), (0, .ref a_m)]) hx hb d_M_word_6 rfl hl (by decide) rfl (fun ls hl => ?_)
  generalize hg_x_1 : gl_word 121 v_sz v_at f_sa 0 v_at = x_1 at hE
  rw [bv_eq] at hE
  obtain ⟨v, e_v⟩ : ∃ q9 : Int64, q9 = 0 := ⟨_, rfl⟩
  obtain ⟨k, e_k⟩ : ∃ q9 : Int32, q9 = v_at := ⟨_, rfl⟩
  obtain ⟨n, e_n⟩ : ∃ q9 : Nat, q9 = 121 := ⟨_, rfl⟩
  have hAll : va_P (dC, dI) vwCl [(a_m, .inr (5, [.int v_th, .ref a_sa, .int v_sz, .int v_at, .int v_wr, .ref a_ru, .ref a_me, .ref a_le, .int v_n, .ref a_cl, .ref a_te, .ref a_ki, .ref a_ty, .ref a_bl, .ref a_ex, .ref a_lo, .int v_nl, .ref a_ho, .ref a_fi, .int v_nf, .ref a_cz, .int v_nc])), (a_sa, .inl (k_sa, 120, .inl f_sa))] s.heap ∧ lv_has ls 4 [(3, .int k), (1, .long v), (0, .ref a_m)] ∧ (0 ≤ k.toInt ∧ k.toInt ≤ 120) ∧ 121 - k.toInt.toNat ≤ n ∧ gl_word n v_sz v_at f_sa v k = x_1 := by
    subst e_v e_k e_n
    exact ⟨hP, hl, hat, by omega, hg_x_1⟩
  clear hP hl e_v e_k e_n hg_x_1
  induction n generalizing v k ls with
  | zero =>
    obtain ⟨hP, hl, hk, hm_word, hg_word⟩ := hAll
    exfalso; omega
  | succ n ih_word =>
    obtain ⟨hP, hl, hk, hm_word, hg_word⟩ := hAll
    rw [gl_word] at hg_word
    refine lv_aload_n hx hb d_M_word_7 rfl (lv_at hl 2 rfl) ?_
    refine lv_iload_n hx hb d_M_word_8 rfl (lv_at hl 0 rfl) ?_
    have hPc := hP.sub (ws' := [(a_m, .inr (5, [.int v_th, .ref a_sa, .int v_sz, .int v_at, .int v_wr, .ref a_ru, .ref a_me, .ref a_le, .int v_n, .ref a_cl, .ref a_te, .ref a_ki, .ref a_ty, .ref a_bl, .ref a_ex, .ref a_lo, .int v_nl, .ref a_ho, .ref a_fi, .int v_nf, .ref a_cz, .int v_nc])), (a_sa, .inl (k_sa, 120, .inl f_sa))]) [0, 1] rfl
    have hKc := hK.sub (tys' := [(k_sa, .byte)]) [0] rfl
    refine vp_callSi (va_Run.run (va_runV (As := [.int k]) (rest := []) ⟨hx, hb, hml, hown, hts⟩ (c_Mg_look l dC dI adK adV (a_m := a_m) (p0 := k) (v_th := v_th) (a_sa := a_sa) (v_sz := v_sz) (v_at := v_at) (v_wr := v_wr) (a_ru := a_ru) (a_me := a_me) (a_le := a_le) (v_n := v_n) (a_cl := a_cl) (a_te := a_te) (a_ki := a_ki) (a_ty := a_ty) (a_bl := a_bl) (a_ex := a_ex) (a_lo := a_lo) (v_nl := v_nl) (a_ho := a_ho) (a_fi := a_fi) (v_nf := v_nf) (a_cz := a_cz) (v_nc := v_nc) (k_sa := k_sa) (f_sa := f_sa) hk.1 hsz) (cwV 1 hts (gV tw_684 tw_686 tw_27 tw_46 tw_687) rfl rfl rfl (by decide +kernel) ⟨(Nat.le_of_ble_eq_true rfl), (Nat.le_of_ble_eq_true rfl)⟩) ⟨fun a U g mk q => by obtain ⟨q0, qZ, qP, qK⟩ := q; exact ⟨q0, zz_call qZ, qP, va_K.moved (u := U) (U := U.calling g mk a) (Vm.Alike.refl U.vm) qK⟩, va_recv hKc hPc (ci := 5) (q0 := 0) rfl rfl, fun U hU hW => ⟨rfl, zz_rr hU hW hZ, by rw [hU]; exact hPc, va_K.moved hW.alike hKc⟩⟩ rfl rfl hl.1 rfl (lv_room (Nat.le_of_ble_eq_true rfl)) d_M_word_9 ⟨(Nat.le_of_ble_eq_true rfl), (Nat.le_of_ble_eq_true rfl)⟩)) (fun r_2 hw_3 => ?_)
    clear hPc hKc
    subst hw_3
    refine lv_bipush (v := 97) hx hb d_M_word_12 (by decide) ?_
    refine lv_icmp_lt (tgt := 67) hx hb d_M_word_14 (by decide) (fun c_4 => ?_) (fun c_4 => ?_)
    · rw [if_pos c_4] at hg_word
      subst hg_word
      dsimp only at hE
      refine lv_lload_n hx hb d_M_word_67 rfl (lv_at hl 1 rfl) ?_
      exact W.lret (v := v) hx hb hr (fun t ht hW => ⟨v, rfl, hE.symm.trans hz, ht⟩) (fun _ h => by cases h) d_M_word_68
    · rw [if_neg c_4] at hg_word
      refine lv_aload_n hx hb d_M_word_17 rfl (lv_at hl 2 rfl) ?_
      refine lv_iload_n hx hb d_M_word_18 rfl (lv_at hl 0 rfl) ?_
      have hPc := hP.sub (ws' := [(a_m, .inr (5, [.int v_th, .ref a_sa, .int v_sz, .int v_at, .int v_wr, .ref a_ru, .ref a_me, .ref a_le, .int v_n, .ref a_cl, .ref a_te, .ref a_ki, .ref a_ty, .ref a_bl, .ref a_ex, .ref a_lo, .int v_nl, .ref a_ho, .ref a_fi, .int v_nf, .ref a_cz, .int v_nc])), (a_sa, .inl (k_sa, 120, .inl f_sa))]) [0, 1] rfl
      have hKc := hK.sub (tys' := [(k_sa, .byte)]) [0] rfl
      refine vp_callSi (va_Run.run (va_runV (As := [.int k]) (rest := []) ⟨hx, hb, hml, hown, hts⟩ (c_Mg_look l dC dI adK adV (a_m := a_m) (p0 := k) (v_th := v_th) (a_sa := a_sa) (v_sz := v_sz) (v_at := v_at) (v_wr := v_wr) (a_ru := a_ru) (a_me := a_me) (a_le := a_le) (v_n := v_n) (a_cl := a_cl) (a_te := a_te) (a_ki := a_ki) (a_ty := a_ty) (a_bl := a_bl) (a_ex := a_ex) (a_lo := a_lo) (v_nl := v_nl) (a_ho := a_ho) (a_fi := a_fi) (v_nf := v_nf) (a_cz := a_cz) (v_nc := v_nc) (k_sa := k_sa) (f_sa := f_sa) hk.1 hsz) (cwV 1 hts (gV tw_684 tw_686 tw_27 tw_46 tw_687) rfl rfl rfl (by decide +kernel) ⟨(Nat.le_of_ble_eq_true rfl), (Nat.le_of_ble_eq_true rfl)⟩) ⟨fun a U g mk q => by obtain ⟨q0, qZ, qP, qK⟩ := q; exact ⟨q0, zz_call qZ, qP, va_K.moved (u := U) (U := U.calling g mk a) (Vm.Alike.refl U.vm) qK⟩, va_recv hKc hPc (ci := 5) (q0 := 0) rfl rfl, fun U hU hW => ⟨rfl, zz_rr hU hW hZ, by rw [hU]; exact hPc, va_K.moved hW.alike hKc⟩⟩ rfl rfl hl.1 rfl (lv_room (Nat.le_of_ble_eq_true rfl)) d_M_word_19 ⟨(Nat.le_of_ble_eq_true rfl), (Nat.le_of_ble_eq_true rfl)⟩)) (fun r_5 hw_6 => ?_)
      clear hPc hKc
      subst hw_6
      refine lv_bipush (v := 122) hx hb d_M_word_22 (by decide) ?_
      refine lv_icmp_gt (tgt := 67) hx hb d_M_word_24 (by decide) (fun c_7 => ?_) (fun c_7 => ?_)
      · rw [if_pos c_7] at hg_word
        subst hg_word
        dsimp only at hE
        refine lv_lload_n hx hb d_M_word_67 rfl (lv_at hl 1 rfl) ?_
        exact W.lret (v := v) hx hb hr (fun t ht hW => ⟨v, rfl, hE.symm.trans hz, ht⟩) (fun _ h => by cases h) d_M_word_68
      · rw [if_neg c_7] at hg_word
        refine lv_iload_n hx hb d_M_word_27 rfl (lv_at hl 0 rfl) ?_
        refine lv_aload_n hx hb d_M_word_28 rfl (lv_at hl 2 rfl) ?_
        refine va_get (D := (dC, dI)) (ci := 5) (v := .int v_at) (C := "LoanRulesModel") (T := Fz_M) (N := 22) hx hb hts it_M hown hK hP 0 rfl rfl 3 (by decide) (hts _ tw_604) (fun _ h9 => h9) rfl d_M_word_29 ?_
        refine lv_isub hx hb d_M_word_32 ?_
        refine lv_bipush (v := 10) hx hb d_M_word_33 (by decide) ?_
        refine lv_icmp_le (tgt := 44) hx hb d_M_word_35 (by decide) (fun c_8 => ?_) (fun c_8 => ?_)
        · rw [if_pos c_8] at hg_word
          refine lv_lload_n hx hb d_M_word_44 rfl (lv_at hl 1 rfl) ?_
          refine lv_ldc2 (v := 32) hx hb hown (hts _ tw_697) d_M_word_45 ?_
          refine lv_lmul hx hb d_M_word_48 ?_
          refine lv_aload_n hx hb d_M_word_49 rfl (lv_at hl 2 rfl) ?_
          refine lv_iload_n hx hb d_M_word_50 rfl (lv_at hl 0 rfl) ?_
          have hPc := hP.sub (ws' := [(a_m, .inr (5, [.int v_th, .ref a_sa, .int v_sz, .int v_at, .int v_wr, .ref a_ru, .ref a_me, .ref a_le, .int v_n, .ref a_cl, .ref a_te, .ref a_ki, .ref a_ty, .ref a_bl, .ref a_ex, .ref a_lo, .int v_nl, .ref a_ho, .ref a_fi, .int v_nf, .ref a_cz, .int v_nc])), (a_sa, .inl (k_sa, 120, .inl f_sa))]) [0, 1] rfl
          have hKc := hK.sub (tys' := [(k_sa, .byte)]) [0] rfl
          refine vp_callSi (va_Run.run (va_runV (As := [.int k]) (rest := [.long (v * 32)]) ⟨hx, hb, hml, hown, hts⟩ (c_Mg_look l dC dI adK adV (a_m := a_m) (p0 := k) (v_th := v_th) (a_sa := a_sa) (v_sz := v_sz) (v_at := v_at) (v_wr := v_wr) (a_ru := a_ru) (a_me := a_me) (a_le := a_le) (v_n := v_n) (a_cl := a_cl) (a_te := a_te) (a_ki := a_ki) (a_ty := a_ty) (a_bl := a_bl) (a_ex := a_ex) (a_lo := a_lo) (v_nl := v_nl) (a_ho := a_ho) (a_fi := a_fi) (v_nf := v_nf) (a_cz := a_cz) (v_nc := v_nc) (k_sa := k_sa) (f_sa := f_sa) hk.1 hsz) (cwV 1 hts (gV tw_684 tw_686 tw_27 tw_46 tw_687) rfl rfl rfl (by decide +kernel) ⟨(Nat.le_of_ble_eq_true rfl), (Nat.le_of_ble_eq_true rfl)⟩) ⟨fun a U g mk q => by obtain ⟨q0, qZ, qP, qK⟩ := q; exact ⟨q0, zz_call qZ, qP, va_K.moved (u := U) (U := U.calling g mk a) (Vm.Alike.refl U.vm) qK⟩, va_recv hKc hPc (ci := 5) (q0 := 0) rfl rfl, fun U hU hW => ⟨rfl, zz_rr hU hW hZ, by rw [hU]; exact hPc, va_K.moved hW.alike hKc⟩⟩ rfl rfl hl.1 rfl (lv_room (Nat.le_of_ble_eq_true rfl)) d_M_word_51 ⟨(Nat.le_of_ble_eq_true rfl), (Nat.le_of_ble_eq_true rfl)⟩)) (fun r_9 hw_10 => ?_)
          clear hPc hKc
          subst hw_10
          refine lv_i2l hx hb d_M_word_54 rfl ?_
          refine lv_ladd hx hb d_M_word_55 ?_
          refine lv_ldc2 (v := 96) hx hb hown (hts _ tw_698) d_M_word_56 ?_
          refine lv_lsub hx hb d_M_word_59 ?_
          refine lv_lstore_n (lv' := [(1, .long (((v * 32) + ((g_Mg_look k v_sz f_sa).toInt64)) - 96)), (3, .int k), (0, .ref a_m)]) hx hb d_M_word_60 rfl hl (by decide) rfl (fun ls hl => ?_)
          refine lv_iinc (v := k + 1) (lv' := [(3, .int (k + 1)), (1, .long (((v * 32) + ((g_Mg_look k v_sz f_sa).toInt64)) - 96)), (0, .ref a_m)]) hx hb d_M_word_61 hl (k := 1) rfl rfl (by decide) rfl (fun ls hl => ?_)
          refine lv_goto (tgt := 7) hx hb d_M_word_64 (by decide) ?_
          exact ih_word _ _ _ ⟨hP, lv_sub hl [0, 1, 2] rfl, (li_k hk hsz (lk_look c_4)), (li_km hk hsz (lk_look c_4) hm_word), hg_word⟩
        · rw [if_neg c_8] at hg_word
          refine lv_ldc2 (v := 1152921504606846976) hx hb hown (hts _ tw_696) d_M_word_38 ?_
          refine lv_goto (tgt := 60) hx hb d_M_word_41 (by decide) ?_
          refine lv_lstore_n (lv' := [(1, .long 1152921504606846976), (3, .int k), (0, .ref a_m)]) hx hb d_M_word_60 rfl hl (by decide) rfl (fun ls hl => ?_)
          refine lv_iinc (v := k + 1) (lv' := [(3, .int (k + 1)), (1, .long 1152921504606846976), (0, .ref a_m)]) hx hb d_M_word_61 hl (k := 1) rfl rfl (by decide) rfl (fun ls hl => ?_)
          refine lv_goto (tgt := 7) hx hb d_M_word_64 (by decide) ?_
          exact ih_word _ _ _ ⟨hP, lv_sub hl [0, 1, 2] rfl, (li_k hk hsz (lk_look c_4)), (li_km hk hsz (lk_look c_4) hm_word), hg_word⟩
def gl_pass : Nat → (Int32) → (Nat → Int32) → (Int32) → Int32
  | 0, v_sz, f_sa, a => a
  | n + 1, v_sz, f_sa, a =>
    if (g_Mg_look a v_sz f_sa) < 97 then
      a
    else
      if 122 < (g_Mg_look a v_sz f_sa) then
        a
      else
        gl_pass n v_sz f_sa (a + 1)
def g_Mg_pass (v_sz : Int32) (v_at : Int32) (f_sa : Nat → Int32) : Int32 :=
  bv (gl_pass 121 v_sz f_sa v_at) (fun x_1 =>
    x_1)
set_option maxHeartbeats 4000000 in
set_option maxRecDepth 100000 in
theorem c_Mg_pass (l : Launch) (dC : Nat → ClassId) (dI : Nat → Nat → Nat) (adK adV : Nat → Nat) (a_m : Nat) (a_sa : Nat) (k_sa : ClassId) (v_th : Int32) (v_sz : Int32) (v_at : Int32) (v_wr : Int32) (a_ru : Nat) (a_me : Nat) (a_le : Nat) (v_n : Int32) (a_cl : Nat) (a_te : Nat) (a_ki : Nat) (a_ty : Nat) (a_bl : Nat) (a_ex : Nat) (a_lo : Nat) (v_nl : Int32) (a_ho : Nat) (a_fi : Nat) (v_nf : Int32) (a_cz : Nat) (v_nc : Int32) (f_sa : Nat → Int32) (sz : Nat) (hsz : 0 ≤ v_sz.toInt ∧ v_sz.toInt ≤ 120) (hat : 0 ≤ v_at.toInt ∧ v_at.toInt ≤ 120) : Met l y_M_pass ws_M_pass ({ frames := 1, cells := 0, slots := 0, locals := 21 }) (va_Pc [.ref a_m] (fun U => U.heap.size = sz ∧ zz adK adV (va_A [(a_m, .inr (5, [.int v_th, .ref a_sa, .int v_sz, .int v_at, .int v_wr, .ref a_ru, .ref a_me, .ref a_le, .int v_n, .ref a_cl, .ref a_te, .ref a_ki, .ref a_ty, .ref a_bl, .ref a_ex, .ref a_lo, .int v_nl, .ref a_ho, .ref a_fi, .int v_nf, .ref a_cz, .int v_nc])), (a_sa, .inl (k_sa, 120, .inl f_sa))] sz) U ∧ va_P (dC, dI) vwCl [(a_m, .inr (5, [.int v_th, .ref a_sa, .int v_sz, .int v_at, .int v_wr, .ref a_ru, .ref a_me, .ref a_le, .int v_n, .ref a_cl, .ref a_te, .ref a_ki, .ref a_ty, .ref a_bl, .ref a_ex, .ref a_lo, .int v_nl, .ref a_ho, .ref a_fi, .int v_nf, .ref a_cz, .int v_nc])), (a_sa, .inl (k_sa, 120, .inl f_sa))] U.heap ∧ va_K (dC, dI) vwCl [(k_sa, .byte)] U ∧ va_D (fun _ => True) [(a_m, .inr (5, [.int v_th, .ref a_sa, .int v_sz, .int v_at, .int v_wr, .ref a_ru, .ref a_me, .ref a_le, .int v_n, .ref a_cl, .ref a_te, .ref a_ki, .ref a_ty, .ref a_bl, .ref a_ex, .ref a_lo, .int v_nl, .ref a_ho, .ref a_fi, .int v_nf, .ref a_cz, .int v_nc])), (a_sa, .inl (k_sa, 120, .inl f_sa))])) (va_Qv (fun _ : Unit => True) (fun (_ : Unit) (t : State) => va_P (dC, dI) vwCl [(a_m, .inr (5, [.int v_th, .ref a_sa, .int v_sz, .int (g_Mg_pass v_sz v_at f_sa), .int v_wr, .ref a_ru, .ref a_me, .ref a_le, .int v_n, .ref a_cl, .ref a_te, .ref a_ki, .ref a_ty, .ref a_bl, .ref a_ex, .ref a_lo, .int v_nl, .ref a_ho, .ref a_fi, .int v_nf, .ref a_cz, .int v_nc])), (a_sa, .inl (k_sa, 120, .inl f_sa))] t.heap ∧ va_K (dC, dI) vwCl [(k_sa, .byte)] t ∧ va_D (va_A [(a_m, .inr (5, [.int v_th, .ref a_sa, .int v_sz, .int v_at, .int v_wr, .ref a_ru, .ref a_me, .ref a_le, .int v_n, .ref a_cl, .ref a_te, .ref a_ki, .ref a_ty, .ref a_bl, .ref a_ex, .ref a_lo, .int v_nl, .ref a_ho, .ref a_fi, .int v_nf, .ref a_cz, .int v_nc])), (a_sa, .inl (k_sa, 120, .inl f_sa))] sz) [(a_m, .inr (5, [.int v_th, .ref a_sa, .int v_sz, .int (g_Mg_pass v_sz v_at f_sa), .int v_wr, .ref a_ru, .ref a_me, .ref a_le, .int v_n, .ref a_cl, .ref a_te, .ref a_ki, .ref a_ty, .ref a_bl, .ref a_ex, .ref a_lo, .int v_nl, .ref a_ho, .ref a_fi, .int v_nf, .ref a_cz, .int v_nc])), (a_sa, .inl (k_sa, 120, .inl f_sa))]) (va_A [(a_m, .inr (5, [.int v_th, .ref a_sa, .int v_sz, .int v_at, .int v_wr, .ref a_ru, .ref a_me, .ref a_le, .int v_n, .ref a_cl, .ref a_te, .ref a_ki, .ref a_ty, .ref a_bl, .ref a_ex, .ref a_lo, .int v_nl, .ref a_ho, .ref a_fi, .int v_nf, .ref a_cz, .int v_nc])), (a_sa, .inl (k_sa, 120, .inl f_sa))] sz)) 0 0 (va_A [(a_m, .inr (5, [.int v_th, .ref a_sa, .int v_sz, .int v_at, .int v_wr, .ref a_ru, .ref a_me, .ref a_le, .int v_n, .ref a_cl, .ref a_te, .ref a_ki, .ref a_ty, .ref a_bl, .ref a_ex, .ref a_lo, .int v_nl, .ref a_ho, .ref a_fi, .int v_nf, .ref a_cz, .int v_nc])), (a_sa, .inl (k_sa, 120, .inl f_sa))] sz) := by
  refine Met.ofW (cc := c_M_pass) (maxL := 1) (ret := none) (by decide) rfl ?_
  intro p e s m args below meth c s₁ B hml hv
  obtain ⟨rfl, hsz, hZ, hP, hK, hD0⟩ := hv
  have hx := B.exec
  have hb := B.bytes
  have hr := B.returns
  have hts0 := atoms_spec (ws := ws_M_pass) B.pre
  have hts : ∀ w ∈ TT, w.before _ s = true := fun w h => hts0 w (List.mem_cons_of_mem _ h)
  have hown : s.vm.findClass "LoanRulesModel" = some m.cls := findClass_of_methodNamed B.named
  have hlocks := B.notSynchronized
  subst hsz
  have hD := hD0.self (sz := s.heap.size)
  generalize hAe : va_A [(a_m, .inr (5, [.int v_th, .ref a_sa, .int v_sz, .int v_at, .int v_wr, .ref a_ru, .ref a_me, .ref a_le, .int v_n, .ref a_cl, .ref a_te, .ref a_ki, .ref a_ty, .ref a_bl, .ref a_ex, .ref a_lo, .int v_nl, .ref a_ho, .ref a_fi, .int v_nf, .ref a_cz, .int v_nc])), (a_sa, .inl (k_sa, 120, .inl f_sa))] s.heap.size = A at hD hZ ⊢
  have hA : ∀ q : Nat, s.heap.size ≤ q → A q := fun q h => by rw [← hAe]; exact Or.inr h
  clear hAe hD0
  have hS : va_S A s.heap s.heap [] := va_S.rf
  replace hP : va_P (dC, dI) vwCl [(a_m, .inr (5, [.int v_th, .ref a_sa, .int v_sz, .int v_at, .int v_wr, .ref a_ru, .ref a_me, .ref a_le, .int v_n, .ref a_cl, .ref a_te, .ref a_ki, .ref a_ty, .ref a_bl, .ref a_ex, .ref a_lo, .int v_nl, .ref a_ho, .ref a_fi, .int v_nf, .ref a_cz, .int v_nc])), (a_sa, .inl (k_sa, 120, .inl f_sa))] s.heap := hP
  have hl := lv_entry ([.ref a_m]) (n := 1) (Nat.le_of_ble_eq_true rfl)
  rw [lg_entry_eq]
  generalize (lg_sl ([.ref a_m]) ++ List.replicate (1 - (lg_sl ([.ref a_m])).length) Slot.unset).toArray = ls at hl ⊢
  replace hl : lv_has ls 1 [(0, .ref a_m)] := hl
  obtain ⟨z, hz⟩ : ∃ z, z = g_Mg_pass v_sz v_at f_sa := ⟨_, rfl⟩
  have hE := hz
  rw [g_Mg_pass] at hE
  obtain ⟨H, hHe⟩ : ∃ H, H = s.heap := ⟨_, rfl⟩
  obtain ⟨locs, hLe⟩ : ∃ locs : List Loc, locs = [] := ⟨_, rfl⟩
  replace hP : va_P (dC, dI) vwCl [(a_m, .inr (5, [.int v_th, .ref a_sa, .int v_sz, .int v_at, .int v_wr, .ref a_ru, .ref a_me, .ref a_le, .int v_n, .ref a_cl, .ref a_te, .ref a_ki, .ref a_ty, .ref a_bl, .ref a_ex, .ref a_lo, .int v_nl, .ref a_ho, .ref a_fi, .int v_nf, .ref a_cz, .int v_nc])), (a_sa, .inl (k_sa, 120, .inl f_sa))] H := by rw [hHe]; exact hP
  replace hS : va_S A s.heap H locs := by rw [hHe, hLe]; exact hS
  refine fl_gen hHe hLe ?_
  clear hHe hLe
  generalize hg_x_1 : gl_pass 121 v_sz f_sa v_at = x_1 at hE
  rw [bv_eq] at hE
  obtain ⟨a, e_a⟩ : ∃ q9 : Int32, q9 = v_at := ⟨_, rfl⟩
  obtain ⟨n, e_n⟩ : ∃ q9 : Nat, q9 = 121 := ⟨_, rfl⟩
  have hAll : va_P (dC, dI) vwCl [(a_m, .inr (5, [.int v_th, .ref a_sa, .int v_sz, .int a, .int v_wr, .ref a_ru, .ref a_me, .ref a_le, .int v_n, .ref a_cl, .ref a_te, .ref a_ki, .ref a_ty, .ref a_bl, .ref a_ex, .ref a_lo, .int v_nl, .ref a_ho, .ref a_fi, .int v_nf, .ref a_cz, .int v_nc])), (a_sa, .inl (k_sa, 120, .inl f_sa))] H ∧ va_D A [(a_m, .inr (5, [.int v_th, .ref a_sa, .int v_sz, .int a, .int v_wr, .ref a_ru, .ref a_me, .ref a_le, .int v_n, .ref a_cl, .ref a_te, .ref a_ki, .ref a_ty, .ref a_bl, .ref a_ex, .ref a_lo, .int v_nl, .ref a_ho, .ref a_fi, .int v_nf, .ref a_cz, .int v_nc])), (a_sa, .inl (k_sa, 120, .inl f_sa))] ∧ va_S A s.heap H locs ∧ lv_has ls 1 [(0, .ref a_m)] ∧ (0 ≤ a.toInt ∧ a.toInt ≤ 120) ∧ 121 - a.toInt.toNat ≤ n ∧ gl_pass n v_sz f_sa a = x_1 := by
    subst e_a e_n
    exact ⟨hP, hD, hS, hl, hat, by omega, hg_x_1⟩
  clear hP hl hD hS e_a e_n hg_x_1
  induction n generalizing a H locs ls with
  | zero =>
    obtain ⟨hP, hD, hS, hl, ha, hm_pass, hg_pass⟩ := hAll
    exfalso; omega
  | succ n ih_pass =>
    obtain ⟨hP, hD, hS, hl, ha, hm_pass, hg_pass⟩ := hAll
    rw [gl_pass] at hg_pass
    refine lv_aload_n hx hb d_M_pass_0 rfl (lv_at hl 0 rfl) ?_
    refine lv_aload_n hx hb d_M_pass_1 rfl (lv_at hl 0 rfl) ?_
    refine va_get (D := (dC, dI)) (ci := 5) (v := .int a) (C := "LoanRulesModel") (T := Fz_M) (N := 22) hx hb hts it_M hown hK hP 0 rfl rfl 3 (by decide) (hts _ tw_604) (fun _ h9 => h9) rfl d_M_pass_2 ?_
    have hPc := hP.sub (ws' := [(a_m, .inr (5, [.int v_th, .ref a_sa, .int v_sz, .int a, .int v_wr, .ref a_ru, .ref a_me, .ref a_le, .int v_n, .ref a_cl, .ref a_te, .ref a_ki, .ref a_ty, .ref a_bl, .ref a_ex, .ref a_lo, .int v_nl, .ref a_ho, .ref a_fi, .int v_nf, .ref a_cz, .int v_nc])), (a_sa, .inl (k_sa, 120, .inl f_sa))]) [0, 1] rfl
    have hKc := hK.sub (tys' := [(k_sa, .byte)]) [0] rfl
    refine vp_callSi (va_Run.run (va_runV (As := [.int a]) (rest := []) ⟨hx, hb, hml, hown, hts⟩ (c_Mg_look l dC dI adK adV (a_m := a_m) (p0 := a) (v_th := v_th) (a_sa := a_sa) (v_sz := v_sz) (v_at := a) (v_wr := v_wr) (a_ru := a_ru) (a_me := a_me) (a_le := a_le) (v_n := v_n) (a_cl := a_cl) (a_te := a_te) (a_ki := a_ki) (a_ty := a_ty) (a_bl := a_bl) (a_ex := a_ex) (a_lo := a_lo) (v_nl := v_nl) (a_ho := a_ho) (a_fi := a_fi) (v_nf := v_nf) (a_cz := a_cz) (v_nc := v_nc) (k_sa := k_sa) (f_sa := f_sa) ha.1 hsz) (cwV 1 hts (gV tw_684 tw_686 tw_27 tw_46 tw_687) rfl rfl rfl (by decide +kernel) ⟨(Nat.le_of_ble_eq_true rfl), (Nat.le_of_ble_eq_true rfl)⟩) ⟨fun a U g mk q => by obtain ⟨q0, qZ, qP, qK⟩ := q; exact ⟨q0, zz_call qZ, qP, va_K.moved (u := U) (U := U.calling g mk a) (Vm.Alike.refl U.vm) qK⟩, va_recv hKc hPc (ci := 5) (q0 := 0) rfl rfl, fun U hU hW => ⟨rfl, zz_ro hS hU hW hZ, by rw [hU]; exact hPc, va_K.moved hW.alike hKc⟩⟩ rfl rfl hl.1 rfl (lv_room (Nat.le_of_ble_eq_true rfl)) d_M_pass_5 ⟨(Nat.le_of_ble_eq_true rfl), (Nat.le_of_ble_eq_true rfl)⟩)) (fun r_2 hw_3 => ?_)
    clear hPc hKc
    subst hw_3
    refine lv_bipush (v := 97) hx hb d_M_pass_8 (by decide) ?_
    refine lv_icmp_lt (tgt := 39) hx hb d_M_pass_10 (by decide) (fun c_4 => ?_) (fun c_4 => ?_)
    · rw [if_pos c_4] at hg_pass
      subst hg_pass
      have hP9 := hP.sub (ws' := [(a_m, .inr (5, [.int v_th, .ref a_sa, .int v_sz, .int a, .int v_wr, .ref a_ru, .ref a_me, .ref a_le, .int v_n, .ref a_cl, .ref a_te, .ref a_ki, .ref a_ty, .ref a_bl, .ref a_ex, .ref a_lo, .int v_nl, .ref a_ho, .ref a_fi, .int v_nf, .ref a_cz, .int v_nc])), (a_sa, .inl (k_sa, 120, .inl f_sa))]) [0, 1] rfl
      have hD9 := hD.sub (ws' := [(a_m, .inr (5, [.int v_th, .ref a_sa, .int v_sz, .int a, .int v_wr, .ref a_ru, .ref a_me, .ref a_le, .int v_n, .ref a_cl, .ref a_te, .ref a_ki, .ref a_ty, .ref a_bl, .ref a_ex, .ref a_lo, .int v_nl, .ref a_ho, .ref a_fi, .int v_nf, .ref a_cz, .int v_nc])), (a_sa, .inl (k_sa, 120, .inl f_sa))]) [0, 1] (by decide) rfl
      have hK9 := hK.sub (tys' := [(k_sa, .byte)]) [0] rfl
      exact W.vret hx hb hr (fun t ht hW => ⟨⟨(), rfl, trivial, by rw [ht, ← hz, hE]; exact hP9, va_K.moved hW.alike hK9, by rw [← hz, hE]; exact hD9⟩, hS.F ht⟩) hS.2.2 d_M_pass_39
    · rw [if_neg c_4] at hg_pass
      refine lv_aload_n hx hb d_M_pass_13 rfl (lv_at hl 0 rfl) ?_
      refine lv_aload_n hx hb d_M_pass_14 rfl (lv_at hl 0 rfl) ?_
      refine va_get (D := (dC, dI)) (ci := 5) (v := .int a) (C := "LoanRulesModel") (T := Fz_M) (N := 22) hx hb hts it_M hown hK hP 0 rfl rfl 3 (by decide) (hts _ tw_604) (fun _ h9 => h9) rfl d_M_pass_15 ?_
      have hPc := hP.sub (ws' := [(a_m, .inr (5, [.int v_th, .ref a_sa, .int v_sz, .int a, .int v_wr, .ref a_ru, .ref a_me, .ref a_le, .int v_n, .ref a_cl, .ref a_te, .ref a_ki, .ref a_ty, .ref a_bl, .ref a_ex, .ref a_lo, .int v_nl, .ref a_ho, .ref a_fi, .int v_nf, .ref a_cz, .int v_nc])), (a_sa, .inl (k_sa, 120, .inl f_sa))]) [0, 1] rfl
      have hKc := hK.sub (tys' := [(k_sa, .byte)]) [0] rfl
      refine vp_callSi (va_Run.run (va_runV (As := [.int a]) (rest := []) ⟨hx, hb, hml, hown, hts⟩ (c_Mg_look l dC dI adK adV (a_m := a_m) (p0 := a) (v_th := v_th) (a_sa := a_sa) (v_sz := v_sz) (v_at := a) (v_wr := v_wr) (a_ru := a_ru) (a_me := a_me) (a_le := a_le) (v_n := v_n) (a_cl := a_cl) (a_te := a_te) (a_ki := a_ki) (a_ty := a_ty) (a_bl := a_bl) (a_ex := a_ex) (a_lo := a_lo) (v_nl := v_nl) (a_ho := a_ho) (a_fi := a_fi) (v_nf := v_nf) (a_cz := a_cz) (v_nc := v_nc) (k_sa := k_sa) (f_sa := f_sa) ha.1 hsz) (cwV 1 hts (gV tw_684 tw_686 tw_27 tw_46 tw_687) rfl rfl rfl (by decide +kernel) ⟨(Nat.le_of_ble_eq_true rfl), (Nat.le_of_ble_eq_true rfl)⟩) ⟨fun a U g mk q => by obtain ⟨q0, qZ, qP, qK⟩ := q; exact ⟨q0, zz_call qZ, qP, va_K.moved (u := U) (U := U.calling g mk a) (Vm.Alike.refl U.vm) qK⟩, va_recv hKc hPc (ci := 5) (q0 := 0) rfl rfl, fun U hU hW => ⟨rfl, zz_ro hS hU hW hZ, by rw [hU]; exact hPc, va_K.moved hW.alike hKc⟩⟩ rfl rfl hl.1 rfl (lv_room (Nat.le_of_ble_eq_true rfl)) d_M_pass_18 ⟨(Nat.le_of_ble_eq_true rfl), (Nat.le_of_ble_eq_true rfl)⟩)) (fun r_5 hw_6 => ?_)
      clear hPc hKc
      subst hw_6
      refine lv_bipush (v := 122) hx hb d_M_pass_21 (by decide) ?_
      refine lv_icmp_gt (tgt := 39) hx hb d_M_pass_23 (by decide) (fun c_7 => ?_) (fun c_7 => ?_)
      · rw [if_pos c_7] at hg_pass
        subst hg_pass
        have hP9 := hP.sub (ws' := [(a_m, .inr (5, [.int v_th, .ref a_sa, .int v_sz, .int a, .int v_wr, .ref a_ru, .ref a_me, .ref a_le, .int v_n, .ref a_cl, .ref a_te, .ref a_ki, .ref a_ty, .ref a_bl, .ref a_ex, .ref a_lo, .int v_nl, .ref a_ho, .ref a_fi, .int v_nf, .ref a_cz, .int v_nc])), (a_sa, .inl (k_sa, 120, .inl f_sa))]) [0, 1] rfl
        have hD9 := hD.sub (ws' := [(a_m, .inr (5, [.int v_th, .ref a_sa, .int v_sz, .int a, .int v_wr, .ref a_ru, .ref a_me, .ref a_le, .int v_n, .ref a_cl, .ref a_te, .ref a_ki, .ref a_ty, .ref a_bl, .ref a_ex, .ref a_lo, .int v_nl, .ref a_ho, .ref a_fi, .int v_nf, .ref a_cz, .int v_nc])), (a_sa, .inl (k_sa, 120, .inl f_sa))]) [0, 1] (by decide) rfl
        have hK9 := hK.sub (tys' := [(k_sa, .byte)]) [0] rfl
        exact W.vret hx hb hr (fun t ht hW => ⟨⟨(), rfl, trivial, by rw [ht, ← hz, hE]; exact hP9, va_K.moved hW.alike hK9, by rw [← hz, hE]; exact hD9⟩, hS.F ht⟩) hS.2.2 d_M_pass_39
      · rw [if_neg c_7] at hg_pass
        refine lv_aload_n hx hb d_M_pass_26 rfl (lv_at hl 0 rfl) ?_
        refine lv_dup hx hb d_M_pass_27 rfl ?_
        refine va_get (D := (dC, dI)) (ci := 5) (v := .int a) (C := "LoanRulesModel") (T := Fz_M) (N := 22) hx hb hts it_M hown hK hP 0 rfl rfl 3 (by decide) (hts _ tw_604) (fun _ h9 => h9) rfl d_M_pass_28 ?_
        refine lv_iconst (v := 1) hx hb d_M_pass_31 (by decide) ?_
        refine lv_iadd hx hb d_M_pass_32 ?_
        refine va_put (D := (dC, dI)) (ci := 5) (v := .int (a + 1)) (ty := .int) (C := "LoanRulesModel") (T := Fz_M) (N := 22) hx hb hts it_M tz_M tz_M_ok nz_M hown hK hP hD hS 0 rfl rfl 3 (by decide) (hts _ tw_604) (fun _ h9 => h9) rfl (by decide +kernel) rfl rfl (Nat.le_of_ble_eq_true rfl) d_M_pass_33 (fun H locs hP hD hS => ?_)
        replace hP : va_P (dC, dI) vwCl [(a_m, .inr (5, [.int v_th, .ref a_sa, .int v_sz, .int (a + 1), .int v_wr, .ref a_ru, .ref a_me, .ref a_le, .int v_n, .ref a_cl, .ref a_te, .ref a_ki, .ref a_ty, .ref a_bl, .ref a_ex, .ref a_lo, .int v_nl, .ref a_ho, .ref a_fi, .int v_nf, .ref a_cz, .int v_nc])), (a_sa, .inl (k_sa, 120, .inl f_sa))] H := hP
        replace hD : va_D A [(a_m, .inr (5, [.int v_th, .ref a_sa, .int v_sz, .int (a + 1), .int v_wr, .ref a_ru, .ref a_me, .ref a_le, .int v_n, .ref a_cl, .ref a_te, .ref a_ki, .ref a_ty, .ref a_bl, .ref a_ex, .ref a_lo, .int v_nl, .ref a_ho, .ref a_fi, .int v_nf, .ref a_cz, .int v_nc])), (a_sa, .inl (k_sa, 120, .inl f_sa))] := hD
        refine lv_goto (tgt := 0) hx hb d_M_pass_36 (by decide) ?_
        exact ih_pass _ _ _ _ ⟨hP, hD, hS, lv_sub hl [0] rfl, (li_k ha hsz (lk_look c_4)), (li_km ha hsz (lk_look c_4) hm_pass), hg_pass⟩
