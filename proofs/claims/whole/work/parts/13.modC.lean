section
variable {σ : xSt} {n N : Nat} {P T ne fi la B F : Nat → Nat}
/-- the net of both pins -/
def vbs (P : Nat → Nat) (c : Nat) : Nat := if P (2 * c) ≠ 0 ∧ P (2 * c) = P (2 * c + 1) then 2 ^ (P (2 * c) - 1) else 0
def vpr (P T ne fi la : Nat → Nat) (r c s : Nat) : Bool := (!decide (T s = 0) && tch P ne fi la s c) && ((decide (ne s + 1 = P (2 * c)) && decide (r + 1 ≤ T s)) || (decide (ne s + 1 = P (2 * c + 1)) && decide (T s ≤ r + 1)))
def vns (P T ne fi la : Nat → Nat) (N r c : Nat) : Nat := vbs P c ||| msk ne (vpr P T ne fi la r c) N
theorem e7_upright (hP : MP σ n P) (h : MS σ N ne fi la) (hT : MT σ N T) {r c : Nat} (hr : r < 100) (hc : c < n) : f_X7_upright (nI r) (nI c) σ = some (nI (vns P T ne fi la N r c), σ) := by
  have hN := h.2.1
  have hn := hP.2.1
  have h0 := h.1
  have p1 := (hP.2.2 (2 * c) (by omega)).2
  have p2 := (hP.2.2 (2 * c + 1) (by omega)).2
  have key : ∀ b : Nat, f_X7_upright_37 (nI r) (nI c) (fun e s => some (e, s)) FU (nI b) (nI 0) σ = some (nI (b ||| msk ne (vpr P T ne fi la r c) N), σ) := by
    intro b
    have e0 : nI b = nI (b ||| msk ne (vpr P T ne fi la r c) 0) := by show nI b = nI (b ||| 0); rw [Nat.or_zero]
    rw [e0]
    refine lpF (fun m (a : Int32 × Int32) => f_X7_upright_37 _ _ _ m a.1 a.2 σ) (fun i => (nI (b ||| msk ne (vpr P T ne fi la r c) i), nI i)) N _ (by omega) (fun m i hi => ?_) (fun m => ?_)
    · have c0 : ¬ N ≤ i := by omega
      obtain ⟨f1, f2⟩ := hT i hi
      obtain ⟨⟨h4, h5, h6⟩, h7, h8, h9⟩ := h.2.2 i hi
      simp (disch := omega) only [lit_nI, nI_leS, nI_ltS, nI_eqS, nI_clS, nI_add, mulI, tI_leS, tI_ltS, tI_eqS, tI_m1, nI_m1, tI_eqn, tI_eqn2, tI_ltn, tI_nle, tI_len, tI_nlt, gi_nI, gi_lit, gz_nI, bnd_some, jn_def, vb_def, if_true, if_false, b2i_0, b2i_1, b2i_t, b2i_f, gb_b2i, gb_n0, gb_n1, bitN, bit0N, sh1N, orI, andI, e7_within, ite_self, n10, n01, Bool.true_eq_false, Bool.false_eq_true, f_X7_upright_37, h0, c0, f1, h4, e7_top hP hc, e7_bottom hP hc, e7_touches hP h hi hc]
      have e : msk ne (vpr P T ne fi la r c) (i + 1) = msk ne (vpr P T ne fi la r c) i ||| (if vpr P T ne fi la r c i then 2 ^ ne i else 0) := rfl
      rw [e, vpr, ← Nat.or_assoc]
      have e2 : (r + 1 ≤ T i) = ¬ T i < r + 1 := propext (by omega)
      have e3 : (T i ≤ r + 1) = ¬ r + 1 < T i := propext (by omega)
      rcases Classical.propComplete (T i = 0) with q1 | q1 <;> cases tch P ne fi la i c <;> rcases Classical.propComplete (ne i + 1 = P (2 * c)) with q2 | q2 <;> rcases Classical.propComplete (ne i + 1 = P (2 * c + 1)) with q3 | q3 <;> rcases Classical.propComplete (T i < r + 1) with q4 | q4 <;> rcases Classical.propComplete (r + 1 < T i) with q5 | q5 <;> simp only [e2, e3, q1, q2, q3, q4, q5, b2i_t, b2i_f, n10, if_true, if_false, decide_true, decide_false, not_true, not_false_eq_true, Bool.not_true, Bool.not_false, Bool.and_true, Bool.and_false, Bool.true_and, Bool.false_and, Bool.or_true, Bool.or_false, Bool.true_or, Bool.false_or, Bool.false_eq_true, nI_eqS, Nat.or_zero, lit_nI, orI, Bool.true_eq_false]
    · simp (disch := omega) only [lit_nI, nI_leS, nI_ltS, nI_eqS, nI_clS, nI_add, mulI, tI_leS, tI_ltS, tI_eqS, tI_m1, nI_m1, tI_eqn, tI_eqn2, tI_ltn, tI_nle, tI_len, tI_nlt, gi_nI, gi_lit, gz_nI, bnd_some, jn_def, vb_def, if_true, if_false, b2i_0, b2i_1, b2i_t, b2i_f, gb_b2i, gb_n0, gb_n1, bitN, bit0N, sh1N, orI, andI, e7_within, ite_self, n10, n01, Bool.true_eq_false, Bool.false_eq_true, f_X7_upright_37, h0, Nat.le_refl]
  rw [f_X7_upright]
  simp (disch := omega) only [lit_nI, nI_leS, nI_ltS, nI_eqS, nI_clS, nI_add, mulI, tI_leS, tI_ltS, tI_eqS, tI_m1, nI_m1, tI_eqn, tI_eqn2, tI_ltn, tI_nle, tI_len, tI_nlt, gi_nI, gi_lit, gz_nI, bnd_some, jn_def, vb_def, if_true, if_false, b2i_0, b2i_1, b2i_t, b2i_f, gb_b2i, gb_n0, gb_n1, bitN, bit0N, sh1N, orI, andI, e7_within, ite_self, n10, n01, Bool.true_eq_false, Bool.false_eq_true, e7_top hP hc, e7_bottom hP hc, key]
  rw [vns, vbs]
  by_cases q1 : P (2 * c) = 0
  · simp [q1]
  · obtain ⟨w, hw⟩ : ∃ w, P (2 * c) = w + 1 := ⟨P (2 * c) - 1, by omega⟩
    by_cases q2 : P (2 * c) = P (2 * c + 1)
    · rw [hw] at q2
      have : nI 1 <<< (tI (w + 1) &&& nI 31) = nI (2 ^ w) := by rw [tI_succ]; exact sh1 (by omega)
      simp [hw, ← q2, this, key]
    · simp [q1, q2]
theorem e7_pinsOf (hP : MP σ n P) {w : Nat} (hw : w ≤ 6) : f_X7_pinsOf (tI w) σ = some (nI (cnt (fun k => decide (P k = w)) (2 * n)), σ) := by
  have hn := hP.2.1
  have h0 := hP.1
  rw [f_X7_pinsOf]
  refine lpF (fun m (a : Int32 × Int32) => f_X7_pinsOf_4 _ _ m a.1 a.2 σ) (fun i => (nI (cnt (fun k => decide (P k = w)) i), nI i)) (2 * n) _ (by omega) (fun m i hi => ?_) (fun m => ?_)
  · have c0 : ¬ 2 * n ≤ i := by omega
    obtain ⟨f1, f2⟩ := hP.2.2 i hi
    simp (disch := omega) only [lit_nI, nI_leS, nI_ltS, nI_eqS, nI_clS, nI_add, mulI, tI_leS, tI_ltS, tI_eqS, tI_m1, nI_m1, tI_eqn, tI_eqn2, tI_ltn, tI_nle, tI_len, tI_nlt, gi_nI, gi_lit, gz_nI, bnd_some, jn_def, vb_def, if_true, if_false, b2i_0, b2i_1, b2i_t, b2i_f, gb_b2i, gb_n0, gb_n1, bitN, bit0N, sh1N, orI, andI, e7_within, ite_self, n10, n01, Bool.true_eq_false, Bool.false_eq_true, f_X7_pinsOf_4, h0, c0, f1, cnt, fo]
    by_cases q : P i = w <;> simp [q]
  · simp (disch := omega) only [lit_nI, nI_leS, nI_ltS, nI_eqS, nI_clS, nI_add, mulI, tI_leS, tI_ltS, tI_eqS, tI_m1, nI_m1, tI_eqn, tI_eqn2, tI_ltn, tI_nle, tI_len, tI_nlt, gi_nI, gi_lit, gz_nI, bnd_some, jn_def, vb_def, if_true, if_false, b2i_0, b2i_1, b2i_t, b2i_f, gb_b2i, gb_n0, gb_n1, bitN, bit0N, sh1N, orI, andI, e7_within, ite_self, n10, n01, Bool.true_eq_false, Bool.false_eq_true, f_X7_pinsOf_4, h0, Nat.le_refl]
theorem e7_segmentsOf (h : MS σ N ne fi la) {w : Nat} (hw : w < 6) : f_X7_segmentsOf (nI w) σ = some (nI (cnt (fun s => decide (ne s = w)) N), σ) := by
  have hN := h.2.1
  have h0 := h.1
  rw [f_X7_segmentsOf]
  refine lpF (fun m (a : Int32 × Int32) => f_X7_segmentsOf_4 _ _ m a.1 a.2 σ) (fun i => (nI (cnt (fun s => decide (ne s = w)) i), nI i)) N _ (by omega) (fun m i hi => ?_) (fun m => ?_)
  · have c0 : ¬ N ≤ i := by omega
    obtain ⟨⟨h4, h5, h6⟩, h7, h8, h9⟩ := h.2.2 i hi
    simp (disch := omega) only [lit_nI, nI_leS, nI_ltS, nI_eqS, nI_clS, nI_add, mulI, tI_leS, tI_ltS, tI_eqS, tI_m1, nI_m1, tI_eqn, tI_eqn2, tI_ltn, tI_nle, tI_len, tI_nlt, gi_nI, gi_lit, gz_nI, bnd_some, jn_def, vb_def, if_true, if_false, b2i_0, b2i_1, b2i_t, b2i_f, gb_b2i, gb_n0, gb_n1, bitN, bit0N, sh1N, orI, andI, e7_within, ite_self, n10, n01, Bool.true_eq_false, Bool.false_eq_true, f_X7_segmentsOf_4, h0, c0, h4, cnt, fo]
    by_cases q : ne i = w <;> simp [q]
  · simp (disch := omega) only [lit_nI, nI_leS, nI_ltS, nI_eqS, nI_clS, nI_add, mulI, tI_leS, tI_ltS, tI_eqS, tI_m1, nI_m1, tI_eqn, tI_eqn2, tI_ltn, tI_nle, tI_len, tI_nlt, gi_nI, gi_lit, gz_nI, bnd_some, jn_def, vb_def, if_true, if_false, b2i_0, b2i_1, b2i_t, b2i_f, gb_b2i, gb_n0, gb_n1, bitN, bit0N, sh1N, orI, andI, e7_within, ite_self, n10, n01, Bool.true_eq_false, Bool.false_eq_true, f_X7_segmentsOf_4, h0, Nat.le_refl]
theorem e7_overIt (h0 : σ.1 0 4 = nI N) (hN : N ≤ 14) (hB : MB σ N B) {t : Nat} (ht : t < 14) : f_X7_overIt (nI t) σ = some (nI (cnt (fun s => (B s).testBit t) N), σ) := by
  rw [f_X7_overIt]
  refine lpF (fun m (a : Int32 × Int32) => f_X7_overIt_4 _ _ m a.1 a.2 σ) (fun i => (nI (cnt (fun s => (B s).testBit t) i), nI i)) N _ (by omega) (fun m i hi => ?_) (fun m => ?_)
  · have c0 : ¬ N ≤ i := by omega
    obtain ⟨f1, f2⟩ := hB i hi
    simp (disch := omega) only [lit_nI, nI_leS, nI_ltS, nI_eqS, nI_clS, nI_add, mulI, tI_leS, tI_ltS, tI_eqS, tI_m1, nI_m1, tI_eqn, tI_eqn2, tI_ltn, tI_nle, tI_len, tI_nlt, gi_nI, gi_lit, gz_nI, bnd_some, jn_def, vb_def, if_true, if_false, b2i_0, b2i_1, b2i_t, b2i_f, gb_b2i, gb_n0, gb_n1, bitN, bit0N, sh1N, orI, andI, e7_within, ite_self, n10, n01, Bool.true_eq_false, Bool.false_eq_true, f_X7_overIt_4, h0, c0, f1, nI_b2i]
    rfl
  · simp (disch := omega) only [lit_nI, nI_leS, nI_ltS, nI_eqS, nI_clS, nI_add, mulI, tI_leS, tI_ltS, tI_eqS, tI_m1, nI_m1, tI_eqn, tI_eqn2, tI_ltn, tI_nle, tI_len, tI_nlt, gi_nI, gi_lit, gz_nI, bnd_some, jn_def, vb_def, if_true, if_false, b2i_0, b2i_1, b2i_t, b2i_f, gb_b2i, gb_n0, gb_n1, bitN, bit0N, sh1N, orI, andI, e7_within, ite_self, n10, n01, Bool.true_eq_false, Bool.false_eq_true, f_X7_overIt_4, h0, Nat.le_refl]
theorem e7_firstPin (hP : MP σ n P) {w e : Nat} (hw : w < 6) (he : e < n) (h1 : ∀ k, k < e → hp P w k = false) (h2 : hp P w e = true) : f_X7_firstPin (nI w) σ = some (nI e, σ) := by
  have hn := hP.2.1
  rw [f_X7_firstPin]
  refine lpE (fun m (a : Int32) => f_X7_firstPin_2 _ _ m a σ) (fun i => nI i) n _ e (by omega) (by omega) (fun m i hi => ?_) (fun m => ?_)
  · simp (disch := omega) only [lit_nI, nI_leS, nI_ltS, nI_eqS, nI_clS, nI_add, mulI, tI_leS, tI_ltS, tI_eqS, tI_m1, nI_m1, tI_eqn, tI_eqn2, tI_ltn, tI_nle, tI_len, tI_nlt, gi_nI, gi_lit, gz_nI, bnd_some, jn_def, vb_def, if_true, if_false, b2i_0, b2i_1, b2i_t, b2i_f, gb_b2i, gb_n0, gb_n1, bitN, bit0N, sh1N, orI, andI, e7_within, ite_self, n10, n01, Bool.true_eq_false, Bool.false_eq_true, f_X7_firstPin_2, e7_hasPin hP (show i < n by omega) hw, h1 i hi]
  · simp (disch := omega) only [lit_nI, nI_leS, nI_ltS, nI_eqS, nI_clS, nI_add, mulI, tI_leS, tI_ltS, tI_eqS, tI_m1, nI_m1, tI_eqn, tI_eqn2, tI_ltn, tI_nle, tI_len, tI_nlt, gi_nI, gi_lit, gz_nI, bnd_some, jn_def, vb_def, if_true, if_false, b2i_0, b2i_1, b2i_t, b2i_f, gb_b2i, gb_n0, gb_n1, bitN, bit0N, sh1N, orI, andI, e7_within, ite_self, n10, n01, Bool.true_eq_false, Bool.false_eq_true, f_X7_firstPin_2, e7_hasPin hP he hw, h2]
theorem e7_lastPin (hP : MP σ n P) {w e : Nat} (hw : w < 6) (he : e < n) (h1 : ∀ k, e < k → k < n → hp P w k = false) (h2 : hp P w e = true) : f_X7_lastPin (nI w) σ = some (nI e, σ) := by
  have hn := hP.2.1
  have h0 := hP.1
  rw [f_X7_lastPin]
  simp (disch := omega) only [lit_nI, nI_leS, nI_ltS, nI_eqS, nI_clS, nI_add, mulI, tI_leS, tI_ltS, tI_eqS, tI_m1, nI_m1, tI_eqn, tI_eqn2, tI_ltn, tI_nle, tI_len, tI_nlt, gi_nI, gi_lit, gz_nI, bnd_some, jn_def, vb_def, if_true, if_false, b2i_0, b2i_1, b2i_t, b2i_f, gb_b2i, gb_n0, gb_n1, bitN, bit0N, sh1N, orI, andI, e7_within, ite_self, n10, n01, Bool.true_eq_false, Bool.false_eq_true, h0, subI (show 1 ≤ n by omega)]
  have := FU_big
  refine lpD (fun m (a : Int32) => f_X7_lastPin_7 _ _ m a σ) (fun i => nI (n - 1 - i)) (n - 1 - e) _ (fun m i hi => ?_) (fun m => ?_) (n - 1 - e) 0 FU (by omega) (by omega)
  · have e1 : nI (n - 1 - i) + -nI 1 = nI (n - 1 - (i + 1)) := by
      rw [show n - 1 - i = (n - 1 - (i + 1)) + 1 by omega]
      exact pk_m1 _
    simp (disch := omega) only [lit_nI, nI_leS, nI_ltS, nI_eqS, nI_clS, nI_add, mulI, tI_leS, tI_ltS, tI_eqS, tI_m1, nI_m1, tI_eqn, tI_eqn2, tI_ltn, tI_nle, tI_len, tI_nlt, gi_nI, gi_lit, gz_nI, bnd_some, jn_def, vb_def, if_true, if_false, b2i_0, b2i_1, b2i_t, b2i_f, gb_b2i, gb_n0, gb_n1, bitN, bit0N, sh1N, orI, andI, e7_within, ite_self, n10, n01, Bool.true_eq_false, Bool.false_eq_true, f_X7_lastPin_7, e7_hasPin hP (show n - 1 - i < n by omega) hw, h1 (n - 1 - i) (by omega) (by omega), e1]
  · have e1 : n - 1 - (n - 1 - e) = e := by omega
    simp (disch := omega) only [lit_nI, nI_leS, nI_ltS, nI_eqS, nI_clS, nI_add, mulI, tI_leS, tI_ltS, tI_eqS, tI_m1, nI_m1, tI_eqn, tI_eqn2, tI_ltn, tI_nle, tI_len, tI_nlt, gi_nI, gi_lit, gz_nI, bnd_some, jn_def, vb_def, if_true, if_false, b2i_0, b2i_1, b2i_t, b2i_f, gb_b2i, gb_n0, gb_n1, bitN, bit0N, sh1N, orI, andI, e7_within, ite_self, n10, n01, Bool.true_eq_false, Bool.false_eq_true, f_X7_lastPin_7, e1, e7_hasPin hP he hw, h2]
theorem vns_lt (h : ∀ s, s < N → ne s < 6) {r c : Nat} (hp : P (2 * c) ≤ 6) : vns P T ne fi la N r c < 64 := by
  rw [vns]
  refine or_lt (n := 6) ?_ (msk_lt h)
  rw [vbs]
  split
  · exact pow6 (by omega)
  · decide
end
