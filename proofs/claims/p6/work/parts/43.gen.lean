theorem ci_llend {w_ln : Int32} {p0 : Int32} {p1 : Int32} {p2 : Int32} {w_nr : Int32} {w_nl : Int32} {w_nf : Int32} {w_nc : Int32} {f_cw : Nat → Int64} {f_tw : Nat → Int64} {f_cki : Nat → Int32} {f_cca : Nat → Int32} {f_cty : Nat → Int32} {f_cio : Nat → Int32} {f_cex : Nat → Int32} {f_cfi : Nat → Int32} {f_ccl : Nat → Int32} {f_out : Nat → Int64} {F_ : Nat → Nat → Int32} {G_ : Nat → Nat → Int32} {rho : Nat → Nat} (h : CI w_ln w_nr w_nl w_nc F_ rho) : CI w_ln w_nr (g_Lg_lend p0 p1 p2 w_nr w_nl w_nf w_nc f_cw f_tw f_cki f_cca f_cty f_cio f_cex f_cfi f_ccl f_out F_ G_ rho).2.1 (g_Lg_lend p0 p1 p2 w_nr w_nl w_nf w_nc f_cw f_tw f_cki f_cca f_cty f_cio f_cex f_cfi f_ccl f_out F_ G_ rho).2.2.2.1 (g_Lg_lend p0 p1 p2 w_nr w_nl w_nf w_nc f_cw f_tw f_cki f_cca f_cty f_cio f_cex f_cfi f_ccl f_out F_ G_ rho).2.2.2.2.2.2.2.2.1 (g_Lg_lend p0 p1 p2 w_nr w_nl w_nf w_nc f_cw f_tw f_cki f_cca f_cty f_cio f_cex f_cfi f_ccl f_out F_ G_ rho).2.2.2.2.2.2.2.2.2.2 := by
  show CI w_ln w_nr (g_Cg_lend p0 p1 p2 w_nr w_nl w_nf w_nc f_cw f_tw f_cki f_cca f_cty f_cio f_cex f_cfi f_ccl F_ G_ rho).2.1 (g_Cg_lend p0 p1 p2 w_nr w_nl w_nf w_nc f_cw f_tw f_cki f_cca f_cty f_cio f_cex f_cfi f_ccl F_ G_ rho).2.2.2.1 (g_Cg_lend p0 p1 p2 w_nr w_nl w_nf w_nc f_cw f_tw f_cki f_cca f_cty f_cio f_cex f_cfi f_ccl F_ G_ rho).2.2.2.2.2.2.2.1 (g_Cg_lend p0 p1 p2 w_nr w_nl w_nf w_nc f_cw f_tw f_cki f_cca f_cty f_cio f_cex f_cfi f_ccl F_ G_ rho).2.2.2.2.2.2.2.2.2.1
  exact (ci_lend rfl h).1
theorem ci_llendT {w_ln : Int32} {p0 : Int32} {p1 : Int32} {p2 : Int32} {w_nr : Int32} {w_nl : Int32} {w_nf : Int32} {w_nc : Int32} {f_cw : Nat → Int64} {f_tw : Nat → Int64} {f_cki : Nat → Int32} {f_cca : Nat → Int32} {f_cty : Nat → Int32} {f_cio : Nat → Int32} {f_cex : Nat → Int32} {f_cfi : Nat → Int32} {f_ccl : Nat → Int32} {F_ : Nat → Nat → Int32} {G_ : Nat → Nat → Int32} {rho : Nat → Nat} (h : CI w_ln w_nr w_nl w_nc F_ rho) : CI w_ln w_nr (g_Lg_lendT p0 p1 p2 w_nr w_nl w_nf w_nc f_cw f_tw f_cki f_cca f_cty f_cio f_cex f_cfi f_ccl F_ G_ rho).2.1 (g_Lg_lendT p0 p1 p2 w_nr w_nl w_nf w_nc f_cw f_tw f_cki f_cca f_cty f_cio f_cex f_cfi f_ccl F_ G_ rho).2.2.2.1 (g_Lg_lendT p0 p1 p2 w_nr w_nl w_nf w_nc f_cw f_tw f_cki f_cca f_cty f_cio f_cex f_cfi f_ccl F_ G_ rho).2.2.2.2.2.2.2.1 (g_Lg_lendT p0 p1 p2 w_nr w_nl w_nf w_nc f_cw f_tw f_cki f_cca f_cty f_cio f_cex f_cfi f_ccl F_ G_ rho).2.2.2.2.2.2.2.2.2 := by
  show CI w_ln w_nr (g_Cg_lend p0 p1 p2 w_nr w_nl w_nf w_nc f_cw f_tw f_cki f_cca f_cty f_cio f_cex f_cfi f_ccl F_ G_ rho).2.1 (g_Cg_lend p0 p1 p2 w_nr w_nl w_nf w_nc f_cw f_tw f_cki f_cca f_cty f_cio f_cex f_cfi f_ccl F_ G_ rho).2.2.2.1 (g_Cg_lend p0 p1 p2 w_nr w_nl w_nf w_nc f_cw f_tw f_cki f_cca f_cty f_cio f_cex f_cfi f_ccl F_ G_ rho).2.2.2.2.2.2.2.1 (g_Cg_lend p0 p1 p2 w_nr w_nl w_nf w_nc f_cw f_tw f_cki f_cca f_cty f_cio f_cex f_cfi f_ccl F_ G_ rho).2.2.2.2.2.2.2.2.2.1
  exact (ci_lend rfl h).1
theorem lw_i4 {k : Nat} : nI (4 * k) + 4 = nI (4 * (k + 1)) := by
  have e : (4 : Int32) = nI 4 := by decide
  rw [e, ← nI_add]
  rfl
theorem lw_ix0 {k L : Nat} (hL : L ≤ 2048) (h : 4 * k + 4 ≤ L) : vp_in (nI (4 * k)) L := vp_in_nI (by omega) (by omega)
theorem lw_ix {k L : Nat} {c : Int32} (hL : L ≤ 2048) (h : 4 * k + 4 ≤ L) (hc : 0 ≤ c.toInt ∧ c.toInt ≤ 3) : vp_in (nI (4 * k) + c) L := by
  have e : (nI (4 * k)).toInt = 4 * k := by rw [nI_toInt (by omega)]; omega
  rw [vp_in_iff, li_add (by omega) (by omega), e]; omega
theorem lw_go {k L : Nat} (hL : L ≤ 2048) (hk : k ≤ 512) (h : ¬ Int32.ofNat L - 4 < nI (4 * k)) : 4 * k + 4 ≤ L := by
  have e1 : (nI (4 * k)).toInt = 4 * k := by rw [nI_toInt (by omega)]; omega
  have e2 : (Int32.ofNat L).toInt = L := nI_toInt (a := L) (by omega)
  have e4 : (4 : Int32).toInt = 4 := by decide
  rw [li_lt, li_sub (by rw [e2, e4]; omega) (by rw [e2, e4]; omega), e1, e2, e4] at h
  omega
theorem mi_nc {k : Nat} {v_sz v_n v_nl v_nf v_nc : Int32} {f_ru f_cl f_lo f_le : Nat → Int32} (hk : k ≤ 511) (h : MI k v_sz v_n v_nl v_nf v_nc f_ru f_cl f_lo f_le) : 0 ≤ v_nc.toInt ∧ v_nc.toInt ≤ 799 := by
  have := h.2.2.2.2.1
  omega
theorem plz_0 {aR aL rho : Nat → Nat} {F G : Nat → Nat → Int32} : plz (nN 0) aR F (nN 0) aL G rho = [] := by
  have e : nN 0 = 0 := by decide
  rw [e]; rfl
theorem ruA_0 {a : Nat → Nat} : ruA (nN 0) a = fun _ => none := by
  have e : nN 0 = 0 := by decide
  rw [e]; rfl
theorem ci_0 : CI 0 0 0 0 (fun _ _ => 0) (fun _ => 0) := by
  have e : nN 0 = 0 := by decide
  refine ⟨by decide, by decide, by decide, by decide, fun i h => ?_, fun i h => ?_, fun i h => ?_, fun _ => b01_0⟩
  · rw [e] at h; omega
  · rw [e] at h; omega
  · rw [e] at h; omega
theorem mi_0 : MI 0 0 0 0 0 0 (fun _ => 0) (fun _ => 0) (fun _ => 0) (fun _ => 0) := by
  refine ⟨by decide, by decide, by decide, by decide, by decide, fun j hj => ⟨by decide, by decide⟩, fun _ => b01_0, fun j h0 h1 => ?_, fun _ => b01_0⟩
  rw [li_0] at h1
  omega
theorem lt_of {l : Launch} (h : l.flags = flags0) : l.stackTraces = false := by
  unfold Launch.stackTraces
  rw [h]
  decide +kernel

