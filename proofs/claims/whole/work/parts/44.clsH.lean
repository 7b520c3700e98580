section
variable {σ : xSt} {N : Nat} {B : Nat → Nat}
/-- what the class's ring may change -/
def sK (c k : Nat) : Bool := decide (c = 24) || (decide (c = 23) && decide (k = 1))
theorem CB.fK {σ' : xSt} (h : CB σ 5 N B) (hf : Fr sK σ σ') : CB σ' 5 N B := fun s hs => ⟨(hf.1 (5 + 4) s rfl).trans (h s hs).1, (h s hs).2⟩
theorem e2_next_rg (hBb : ∀ s, s < N → ∀ t, (B s).testBit t = true → t < N) (h0 : σ.1 5 8 = nI N) (hN : N ≤ 14) (hB : CB σ 5 N B) {a l j : Nat} (h : rng B N a l) (hj : j < l) : f_X2_next (nI (rg B N a l j)) (nI a) (nI (l - (j + 1))) σ = some (if j + 1 < l then nI (rg B N a l (j + 1)) else -nI 1, σ) := by
  have hlN : l ≤ N := by rw [← h.2.2.1]; exact sd_le
  obtain ⟨i1, i2, i3⟩ := rg_ok hBb h j hj
  rw [e2_next h0 hN hB i1 h.1 (show l - (j + 1) < 100 by omega)]
  by_cases q : j + 1 < l
  · obtain ⟨k1, k2, k3⟩ := rg_ok hBb h (j + 1) q
    have e : rg B N a l (j + 1) = fst (fun t => (B (rg B N a l j)).testBit t && decide (sd B N t a = l - (j + 1))) N := rfl
    have ep : (fun t => (B (rg B N a l j)).testBit t && decide (sd B N t a = l - (j + 1) ∧ sd B N t a ≠ 0)) = (fun t => (B (rg B N a l j)).testBit t && decide (sd B N t a = l - (j + 1))) := by
      funext t
      have : (sd B N t a = l - (j + 1) ∧ sd B N t a ≠ 0) = (sd B N t a = l - (j + 1)) := propext ⟨fun h => h.1, fun h => ⟨h, by omega⟩⟩
      simp only [this]
    rw [ep, ← e, if_pos k1, if_pos q]
  · have hz : fst (fun t => (B (rg B N a l j)).testBit t && decide (sd B N t a = l - (j + 1) ∧ sd B N t a ≠ 0)) N = N := by
      refine fst_eq (Nat.le_refl N) (fun t _ => ?_) (fun hh => absurd hh (Nat.lt_irrefl N))
      have : ¬ (sd B N t a = l - (j + 1) ∧ sd B N t a ≠ 0) := fun hh => by omega
      simp only [this, decide_false, Bool.and_false]
    rw [hz, if_neg (Nat.lt_irrefl N), if_neg q]
theorem e2_find_cyc (hBb : ∀ s, s < N → ∀ t, (B s).testBit t = true → t < N) (h0 : σ.1 5 8 = nI N) (hN : N ≤ 14) (hB : CB σ 5 N B) (hc : σ.1 5 9 = -nI 1) {a l : Nat} (h : rng B N a l) : ∃ σ', f_X2_find σ = some ((), σ') ∧ σ'.1 23 1 = nI l ∧ (∀ k, k < l → σ'.1 24 k = nI (rg B N a l k)) ∧ Fr sK σ σ' := by
  have hlN : l ≤ N := by rw [← h.2.2.1]; exact sd_le
  have f0 : Fr sK σ (up2 σ 23 1 (nI 0)) := Fr.up rfl
  have s1 := e2_start ((f0.1 5 8 rfl).trans h0) hN (hB.fK f0) ((f0.1 5 9 rfl).trans hc) h
  have s2 := e3_steps (o := 5) ((f0.1 5 8 rfl).trans h0) hN (hB.fK f0) h.1 h.1
  have hl1 := h.2.1
  rw [h.2.2.1, stI_pos (by omega)] at s2
  obtain ⟨⟨y, τ⟩, ⟨i1, i2, i3, i4⟩, i5⟩ := lpK (fun kk q (x : Int32 × xSt) => f_X2_find_26 (nI a) (nI l) kk q x.1 x.2) (fun j y => y.1 = (if j < l then nI (rg B N a l j) else -nI 1) ∧ y.2.1 23 1 = nI j ∧ (∀ k, k < j → y.2.1 24 k = nI (rg B N a l k)) ∧ Fr sK σ y.2) l (fun kk y => kk y.2) (by omega) (fun q j y hj hI => by
    obtain ⟨y1, τ⟩ := y
    obtain ⟨i1, i2, i3, i4⟩ := hI
    dsimp only at i1 i2 i3 i4 ⊢
    rw [if_pos hj] at i1
    subst i1
    obtain ⟨u1, u2, u3⟩ := rg_ok hBb h j hj
    have f1 : Fr sK τ (up2 (up2 τ 24 j (nI (rg B N a l j))) 23 1 (nI (j + 1))) := (Fr.up rfl).tr (Fr.up rfl)
    have fA := i4.tr f1
    have nx := e2_next_rg hBb ((fA.1 5 8 rfl).trans h0) hN (hB.fK fA) h hj
    have c0 : ¬ l ≤ j := by omega
    have c1 : ¬ 14 ≤ j := by omega
    have em : nI l - nI (j + 1) = nI (l - (j + 1)) := subI (by omega)
    refine ⟨(if j + 1 < l then nI (rg B N a l (j + 1)) else -nI 1, up2 (up2 τ 24 j (nI (rg B N a l j))) 23 1 (nI (j + 1))), ⟨rfl, up2_same _ _ _ _, fun k hk => ?_, fA⟩, fun kk => ?_⟩
    · show (up2 (up2 τ 24 j _) 23 1 _).1 24 k = _
      rw [up2_cell _ _ _ _ (by decide)]
      by_cases e : k = j
      · subst e; exact up2_same _ _ _ _
      · rw [up2_place _ _ _ _ e]; exact i3 k (by omega)
    · simp (disch := omega) only [lit_nI, nI_leS, nI_ltS, nI_eqS, nI_clS, nI_add, mulI, tI_leS, tI_ltS, tI_eqS, tI_m1, nI_m1, tI_eqn, tI_eqn2, tI_ltn, tI_nle, tI_len, tI_nlt, gi_nI, gi_lit, gz_nI, bnd_some, jn_def, vb_def, if_true, if_false, b2i_0, b2i_1, b2i_t, b2i_f, gb_b2i, gb_n0, gb_n1, bitN, bit0N, sh1N, orI, andI, e7_within, ite_self, n10, n01, Bool.true_eq_false, Bool.false_eq_true, f_X2_find_26, i2, c0, c1, up2_cell, up2_same, em, nx]) (fun q y hI => by
    obtain ⟨y1, τ⟩ := y
    obtain ⟨i1, i2, i3, i4⟩ := hI
    dsimp only at i1 i2 i3 i4 ⊢
    rw [if_neg (Nat.lt_irrefl l)] at i1
    subst i1
    intro kk
    simp (disch := omega) only [lit_nI, nI_leS, nI_ltS, nI_eqS, nI_clS, nI_add, mulI, tI_leS, tI_ltS, tI_eqS, tI_m1, nI_m1, tI_eqn, tI_eqn2, tI_ltn, tI_nle, tI_len, tI_nlt, gi_nI, gi_lit, gz_nI, bnd_some, jn_def, vb_def, if_true, if_false, b2i_0, b2i_1, b2i_t, b2i_f, gb_b2i, gb_n0, gb_n1, bitN, bit0N, sh1N, orI, andI, e7_within, ite_self, n10, n01, Bool.true_eq_false, Bool.false_eq_true, f_X2_find_26, eq_self]) (nI a, up2 σ 23 1 (nI 0)) ⟨by rw [if_pos (show 0 < l by omega)]; rfl, up2_same _ _ _ _, fun k hk => absurd hk (Nat.not_lt_zero k), f0⟩
  dsimp only at i1 i2 i3 i4 i5
  refine ⟨τ, ?_, i2, i3, i4⟩
  have haN := h.1
  simp (disch := omega) only [lit_nI, nI_leS, nI_ltS, nI_eqS, nI_clS, nI_add, mulI, tI_leS, tI_ltS, tI_eqS, tI_m1, nI_m1, tI_eqn, tI_eqn2, tI_ltn, tI_nle, tI_len, tI_nlt, gi_nI, gi_lit, gz_nI, bnd_some, jn_def, vb_def, if_true, if_false, b2i_0, b2i_1, b2i_t, b2i_f, gb_b2i, gb_n0, gb_n1, bitN, bit0N, sh1N, orI, andI, e7_within, ite_self, n10, n01, Bool.true_eq_false, Bool.false_eq_true, f_X2_find, s1, s2, i5]
theorem e2_find_no {r : Nat} (hr : r < 1000) (hc : σ.1 5 9 = nI r) : ∃ σ', f_X2_find σ = some ((), σ') ∧ σ'.1 23 1 = nI 0 ∧ Fr sK σ σ' := by
  have f0 : Fr sK σ (up2 σ 23 1 (nI 0)) := Fr.up rfl
  refine ⟨up2 σ 23 1 (nI 0), ?_, up2_same _ _ _ _, f0⟩
  have hc' : (up2 σ 23 1 (nI 0)).1 5 9 = nI r := (f0.1 5 9 rfl).trans hc
  have hh : f_X3_hasCycle 5 (up2 σ 23 1 (nI 0)) = some (nI 0, up2 σ 23 1 (nI 0)) := by
    simp (disch := omega) only [lit_nI, nI_leS, nI_ltS, nI_eqS, nI_clS, nI_add, mulI, tI_leS, tI_ltS, tI_eqS, tI_m1, nI_m1, tI_eqn, tI_eqn2, tI_ltn, tI_nle, tI_len, tI_nlt, gi_nI, gi_lit, gz_nI, bnd_some, jn_def, vb_def, if_true, if_false, b2i_0, b2i_1, b2i_t, b2i_f, gb_b2i, gb_n0, gb_n1, bitN, bit0N, sh1N, orI, andI, e7_within, ite_self, n10, n01, Bool.true_eq_false, Bool.false_eq_true, f_X3_hasCycle, hc']
  have hs : f_X2_startOfShortest (up2 σ 23 1 (nI 0)) = some (-nI 1, up2 σ 23 1 (nI 0)) := by
    simp (disch := omega) only [lit_nI, nI_leS, nI_ltS, nI_eqS, nI_clS, nI_add, mulI, tI_leS, tI_ltS, tI_eqS, tI_m1, nI_m1, tI_eqn, tI_eqn2, tI_ltn, tI_nle, tI_len, tI_nlt, gi_nI, gi_lit, gz_nI, bnd_some, jn_def, vb_def, if_true, if_false, b2i_0, b2i_1, b2i_t, b2i_f, gb_b2i, gb_n0, gb_n1, bitN, bit0N, sh1N, orI, andI, e7_within, ite_self, n10, n01, Bool.true_eq_false, Bool.false_eq_true, f_X2_startOfShortest, hh]
  simp (disch := omega) only [lit_nI, nI_leS, nI_ltS, nI_eqS, nI_clS, nI_add, mulI, tI_leS, tI_ltS, tI_eqS, tI_m1, nI_m1, tI_eqn, tI_eqn2, tI_ltn, tI_nle, tI_len, tI_nlt, gi_nI, gi_lit, gz_nI, bnd_some, jn_def, vb_def, if_true, if_false, b2i_0, b2i_1, b2i_t, b2i_f, gb_b2i, gb_n0, gb_n1, bitN, bit0N, sh1N, orI, andI, e7_within, ite_self, n10, n01, Bool.true_eq_false, Bool.false_eq_true, f_X2_find, hs, eq_self]
end
