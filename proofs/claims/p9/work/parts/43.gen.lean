theorem ci_llend {w_ln : Int32} {p0 : Int32} {p1 : Int32} {p2 : Int32} {w_nr : Int32} {w_nl : Int32} {w_nf : Int32} {w_nc : Int32} {f_cw : Nat → Int64} {f_tw : Nat → Int64} {f_cki : Nat → Int32} {f_cca : Nat → Int32} {f_cty : Nat → Int32} {f_cio : Nat → Int32} {f_cex : Nat → Int32} {f_cfi : Nat → Int32} {f_ccl : Nat → Int32} {f_out : Nat → Int64} {F_ : Nat → Nat → Int32} {G_ : Nat → Nat → Int32} {rho : Nat → Nat} (h : CI w_ln w_nr w_nl w_nc F_ rho) : CI w_ln w_nr (g_Lg_lend p0 p1 p2 w_nr w_nl w_nf w_nc f_cw f_tw f_cki f_cca f_cty f_cio f_cex f_cfi f_ccl f_out F_ G_ rho).2.1 (g_Lg_lend p0 p1 p2 w_nr w_nl w_nf w_nc f_cw f_tw f_cki f_cca f_cty f_cio f_cex f_cfi f_ccl f_out F_ G_ rho).2.2.2.1 (g_Lg_lend p0 p1 p2 w_nr w_nl w_nf w_nc f_cw f_tw f_cki f_cca f_cty f_cio f_cex f_cfi f_ccl f_out F_ G_ rho).2.2.2.2.2.2.2.2.1 (g_Lg_lend p0 p1 p2 w_nr w_nl w_nf w_nc f_cw f_tw f_cki f_cca f_cty f_cio f_cex f_cfi f_ccl f_out F_ G_ rho).2.2.2.2.2.2.2.2.2.2 := by
  show CI w_ln w_nr (g_Cg_lend p0 p1 p2 w_nr w_nl w_nf w_nc f_cw f_tw f_cki f_cca f_cty f_cio f_cex f_cfi f_ccl F_ G_ rho).2.1 (g_Cg_lend p0 p1 p2 w_nr w_nl w_nf w_nc f_cw f_tw f_cki f_cca f_cty f_cio f_cex f_cfi f_ccl F_ G_ rho).2.2.2.1 (g_Cg_lend p0 p1 p2 w_nr w_nl w_nf w_nc f_cw f_tw f_cki f_cca f_cty f_cio f_cex f_cfi f_ccl F_ G_ rho).2.2.2.2.2.2.2.1 (g_Cg_lend p0 p1 p2 w_nr w_nl w_nf w_nc f_cw f_tw f_cki f_cca f_cty f_cio f_cex f_cfi f_ccl F_ G_ rho).2.2.2.2.2.2.2.2.2.1
  exact (ci_lend rfl h).1
theorem ci_llendT {w_ln : Int32} {p0 : Int32} {p1 : Int32} {p2 : Int32} {w_nr : Int32} {w_nl : Int32} {w_nf : Int32} {w_nc : Int32} {f_cw : Nat → Int64} {f_tw : Nat → Int64} {f_cki : Nat → Int32} {f_cca : Nat → Int32} {f_cty : Nat → Int32} {f_cio : Nat → Int32} {f_cex : Nat → Int32} {f_cfi : Nat → Int32} {f_ccl : Nat → Int32} {F_ : Nat → Nat → Int32} {G_ : Nat → Nat → Int32} {rho : Nat → Nat} (h : CI w_ln w_nr w_nl w_nc F_ rho) : CI w_ln w_nr (g_Lg_lendT p0 p1 p2 w_nr w_nl w_nf w_nc f_cw f_tw f_cki f_cca f_cty f_cio f_cex f_cfi f_ccl F_ G_ rho).2.1 (g_Lg_lendT p0 p1 p2 w_nr w_nl w_nf w_nc f_cw f_tw f_cki f_cca f_cty f_cio f_cex f_cfi f_ccl F_ G_ rho).2.2.2.1 (g_Lg_lendT p0 p1 p2 w_nr w_nl w_nf w_nc f_cw f_tw f_cki f_cca f_cty f_cio f_cex f_cfi f_ccl F_ G_ rho).2.2.2.2.2.2.2.1 (g_Lg_lendT p0 p1 p2 w_nr w_nl w_nf w_nc f_cw f_tw f_cki f_cca f_cty f_cio f_cex f_cfi f_ccl F_ G_ rho).2.2.2.2.2.2.2.2.2 := by
  show CI w_ln w_nr (g_Cg_lend p0 p1 p2 w_nr w_nl w_nf w_nc f_cw f_tw f_cki f_cca f_cty f_cio f_cex f_cfi f_ccl F_ G_ rho).2.1 (g_Cg_lend p0 p1 p2 w_nr w_nl w_nf w_nc f_cw f_tw f_cki f_cca f_cty f_cio f_cex f_cfi f_ccl F_ G_ rho).2.2.2.1 (g_Cg_lend p0 p1 p2 w_nr w_nl w_nf w_nc f_cw f_tw f_cki f_cca f_cty f_cio f_cex f_cfi f_ccl F_ G_ rho).2.2.2.2.2.2.2.1 (g_Cg_lend p0 p1 p2 w_nr w_nl w_nf w_nc f_cw f_tw f_cki f_cca f_cty f_cio f_cex f_cfi f_ccl F_ G_ rho).2.2.2.2.2.2.2.2.2.1
  exact (ci_lend rfl h).1
theorem lw_i4 {k : Nat} : nI (4 * k) + 4 = nI (4 * (k + 1)) := by
  have e : (4 : Int32) = nI 4 := by decide
  rw [e, nI_add]
  rfl
theorem lw_ix0 {k L : Nat} (hL : L ≤ 2048) (h : 4 * k + 4 ≤ L) : vp_in (nI (4 * k)) L := vp_in_nI (by omega) (by omega)
theorem lw_ix {k L : Nat} {c : Int32} (hL : L ≤ 2048) (h : 4 * k + 4 ≤ L) (hc : 0 ≤ c.toInt ∧ c.toInt ≤ 3) : vp_in (nI (4 * k) + c) L := by
  have e : (nI (4 * k)).toInt = 4 * k := by rw [nI_toInt (by omega)]; omega
  rw [vp_in_iff, li_add (by omega) (by omega), e]; omega
theorem lw_go {k L : Nat} (hL : L ≤ 2048) (hk : k ≤ 512) (h : ¬ Int32.ofNat L - 4 < nI (4 * k)) : 4 * k + 4 ≤ L := by
  have e1 : (nI (4 * k)).toInt = 4 * k := by rw [nI_toInt (by omega)]; omega
  have e2 : (Int32.ofNat L).toInt = L := nI_toInt (n := L) (by omega)
  have e4 : (4 : Int32).toInt = 4 := by decide
  rw [li_lt, li_sub (by rw [e2, e4]; omega) (by rw [e2, e4]; omega), e1, e2, e4] at h
  omega
theorem mi_nc {k : Nat} {v_sz v_n v_nl v_nf v_nc : Int32} {f_ru f_cl f_lo f_le : Nat → Int32} (hk : k ≤ 511) (h : MI k v_sz v_n v_nl v_nf v_nc f_ru f_cl f_lo f_le) : 0 ≤ v_nc.toInt ∧ v_nc.toInt ≤ 799 := by
  have := h.2.2.2.2.1
  omega
theorem plz_0 {aR aL rho : Nat → Nat} {F G : Nat → Nat → Int32} : plz (nN 0) aR F (nN 0) aL G rho = [] := by
  have e : nN 0 = 0 := by decide
  rw [e]; rfl
theorem ruA_0 {a : Nat → Nat} : ruA (nN 0) a = fun _ => none := by
  have e : nN 0 = 0 := by decide
  rw [e]; rfl
theorem ci_0 : CI 0 0 0 0 (fun _ _ => 0) (fun _ => 0) := by
  have e : nN 0 = 0 := by decide
  refine ⟨by decide, by decide, by decide, by decide, fun i h => ?_, fun i h => ?_, fun i h => ?_, fun _ => b01_0⟩
  · rw [e] at h; omega
  · rw [e] at h; omega
  · rw [e] at h; omega
theorem mi_0 : MI 0 0 0 0 0 0 (fun _ => 0) (fun _ => 0) (fun _ => 0) (fun _ => 0) := by
  refine ⟨by decide, by decide, by decide, by decide, by decide, fun j hj => ⟨show r999 (0 : Int32) by decide, show r999 (0 : Int32) by decide⟩, fun _ => b01_0, fun j h0 h1 => ?_, fun _ => b01_0⟩
  rw [li_0] at h1
  omega
theorem lt_of {l : Launch} (h : l.flags = flags0) : l.stackTraces = false := by
  unfold Launch.stackTraces
  rw [h]
  decide +kernel
def crs (V W : va_W) : Prop := ∀ (i j : Nat) (x y : Nat × va_E), V[i]? = some x → W[j]? = some y → x.1 ≠ y.1
section CR
variable {A : Nat → Prop} {D : va_G} {cl : List vw_C} {X cx wr rx w1 pl pl1 ws ws' wc V V' W : va_W} {H H1 : Heap} {n : Nat}
theorem crs_symm (h : crs V W) : crs W V := fun i j x y hx hy e => h j i y x hy hx e.symm
theorem crs_part (h : crs (X ++ pl) W) (is : List Nat) (hs : is.map (fun i => X[i]?) = cx.map some) : crs (cx ++ pl) W := fun i j x y hx hy => h _ j x y (va_part is hs i x hx) hy
theorem crs_subl (h : crs ws W) (is : List Nat) (hs : is.map (fun i => ws[i]?) = ws'.map some) : crs ws' W := fun i j x y hx hy => by
  obtain ⟨i', -, h'⟩ := va_in_of is hs hx
  exact h i' j x y h' hy
theorem crs_split (hD : va_D A ws) (isV isW : List Nat) (hV : isV.map (fun i => ws[i]?) = V.map some) (hW : isW.map (fun i => ws[i]?) = W.map some) (hdis : ∀ i ∈ isV, i ∉ isW) : crs V W := fun i j x y hx hy e => by
  obtain ⟨i', h1, h2⟩ := va_in_of isV hV hx
  obtain ⟨j', h3, h4⟩ := va_in_of isW hW hy
  have := hD.1 i' j' x y h2 h4 e
  subst this
  exact hdis i' (List.mem_of_getElem? h1) (List.mem_of_getElem? h3)
theorem crs_keep (hX : crs V W) (hPM : va_P D cl W H) (hin : ∀ q, va_A wc H.size q → (∃ (i : Nat) (e : va_E), V[i]? = some (q, e)) ∨ H.size ≤ q) (hk : ∀ q : Nat, q < H.size → ¬ va_A wc H.size q → H1[q]? = H[q]?) : va_P D cl W H1 :=
  hPM.kept (fun k q hq => hk q.1 (hPM k q hq).lt (fun h => by
    rcases hin _ h with ⟨i, e, hi⟩ | h2
    · exact hX i k _ q hi hq rfl
    · have := (hPM k q hq).lt
      omega))
theorem crs_new (hX : crs V W) (hPM : va_P D cl W H) (hn : ∀ (k : Nat) (x : Nat × va_E), V'[k]? = some x → (∃ (i : Nat) (e : va_E), V[i]? = some (x.1, e)) ∨ H.size ≤ x.1) : crs V' W := by
  intro i j x y hx hy hxy
  rcases hn i x hx with ⟨i', e, hi⟩ | h2
  · exact hX i' j _ y hi hy hxy
  · have := (hPM j y hy).lt
    omega
theorem crs_inP (is : List Nat) (hs : is.map (fun i => X[i]?) = cx.map some) : ∀ q, va_A (cx ++ pl) n q → (∃ (i : Nat) (e : va_E), (X ++ pl)[i]? = some (q, e)) ∨ n ≤ q := by
  intro q h
  rcases h with ⟨k, e, h⟩ | h
  · exact Or.inl ⟨_, e, va_part is hs k _ h⟩
  · exact Or.inr h
theorem crs_lft {i : Nat} {q : Nat × va_E} (h : X[i]? = some q) : (X ++ pl)[i]? = some q := by
  rw [List.getElem?_append_left (List.getElem?_eq_some_iff.mp h).1]; exact h
theorem crs_inQ (is : List Nat) (hs : is.map (fun i => X[i]?) = cx.map some) : ∀ q, va_A cx n q → (∃ (i : Nat) (e : va_E), (X ++ pl)[i]? = some (q, e)) ∨ n ≤ q := by
  intro q h
  rcases h with ⟨k, e, h⟩ | h
  · obtain ⟨i, -, h2⟩ := va_in_of is hs h
    exact Or.inl ⟨i, e, crs_lft h2⟩
  · exact Or.inr h
theorem crs_inJ (is : List Nat) (hs : is.map (fun i => ws[i]?) = wc.map some) : ∀ q, va_A wc n q → (∃ (i : Nat) (e : va_E), ws[i]? = some (q, e)) ∨ n ≤ q := by
  intro q h
  rcases h with ⟨k, e, h⟩ | h
  · obtain ⟨i, -, h2⟩ := va_in_of is hs h
    exact Or.inl ⟨i, e, h2⟩
  · exact Or.inr h
theorem crs_P (hX : crs (X ++ pl) W) (hPM : va_P D cl W H) (isC isR : List Nat) (hC : isC.map (fun i => X[i]?) = cx.map some) (hR : isR.map (fun i => X[i]?) = wr.map some) (hk : ∀ q : Nat, q < H.size → ¬ va_A (cx ++ pl) H.size q → H1[q]? = H[q]?) (hD1 : va_D (va_A (cx ++ pl) H.size) (rx ++ pl1)) : va_P D cl W H1 ∧ crs ((wr ++ rx) ++ pl1) W := by
  have hin := crs_inP (pl := pl) (n := H.size) isC hC
  refine ⟨crs_keep hX hPM hin hk, crs_new hX hPM (fun k x hx => ?_)⟩
  rw [List.append_assoc] at hx
  by_cases h : k < wr.length
  · rw [List.getElem?_append_left h] at hx
    obtain ⟨i, -, hi⟩ := va_in_of isR hR hx
    exact Or.inl ⟨i, x.2, crs_lft hi⟩
  · rw [List.getElem?_append_right (by omega)] at hx
    exact hin _ (hD1.2 _ x hx)
theorem crs_Q (hX : crs (X ++ pl) W) (hPM : va_P D cl W H) (isC isR : List Nat) (hC : isC.map (fun i => X[i]?) = cx.map some) (hR : isR.map (fun i => X[i]?) = wr.map some) (hk : ∀ q : Nat, q < H.size → ¬ va_A cx H.size q → H1[q]? = H[q]?) (hD1 : va_D (va_A cx H.size) w1) : va_P D cl W H1 ∧ crs ((wr ++ w1) ++ pl) W := by
  have hin := crs_inQ (pl := pl) (n := H.size) isC hC
  refine ⟨crs_keep hX hPM hin hk, crs_new hX hPM (fun k x hx => ?_)⟩
  by_cases h : k < wr.length
  · rw [List.getElem?_append_left (by rw [List.length_append]; omega), List.getElem?_append_left h] at hx
    obtain ⟨i, -, hi⟩ := va_in_of isR hR hx
    exact Or.inl ⟨i, x.2, crs_lft hi⟩
  · by_cases h2 : k < (wr ++ w1).length
    · rw [List.getElem?_append_left h2, List.getElem?_append_right (by omega)] at hx
      exact hin _ (hD1.2 _ x hx)
    · rw [List.getElem?_append_right (by omega)] at hx
      refine Or.inl ⟨X.length + (k - (wr ++ w1).length), x.2, ?_⟩
      rw [List.getElem?_append_right (by omega), Nat.add_sub_cancel_left]
      exact hx
theorem crs_J (hX : crs ws W) (hPM : va_P D cl W H) (isC isR : List Nat) (hC : isC.map (fun i => ws[i]?) = wc.map some) (hR : isR.map (fun i => ws[i]?) = wr.map some) (hk : ∀ q : Nat, q < H.size → ¬ va_A wc H.size q → H1[q]? = H[q]?) (hD1 : va_D (va_A wc H.size) w1) : va_P D cl W H1 ∧ crs (wr ++ w1) W := by
  have hin := crs_inJ (n := H.size) isC hC
  refine ⟨crs_keep hX hPM hin hk, crs_new hX hPM (fun k x hx => ?_)⟩
  by_cases h : k < wr.length
  · rw [List.getElem?_append_left h] at hx
    obtain ⟨i, -, hi⟩ := va_in_of isR hR hx
    exact Or.inl ⟨i, x.2, hi⟩
  · rw [List.getElem?_append_right (by omega)] at hx
    exact hin _ (hD1.2 _ x hx)
end CR

