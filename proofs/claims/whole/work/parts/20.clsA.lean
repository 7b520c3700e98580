/-! ===== what stands in the class's cells ===== -/
def CP (σ : xSt) (n : Nat) (P : Nat → Nat) : Prop := σ.1 3 1 = nI n ∧ n ≤ 8 ∧ ∀ k, k < 2 * n → σ.1 4 k = tI (P k) ∧ P k ≤ 6
def CS (σ : xSt) (o N : Nat) (ne fi la : Nat → Nat) : Prop := σ.1 o 8 = nI N ∧ N ≤ 14 ∧ ∀ s, s < N → (σ.1 (o + 1) s = nI (ne s) ∧ σ.1 (o + 2) s = nI (fi s) ∧ σ.1 (o + 3) s = nI (la s)) ∧ ne s < 6 ∧ fi s < 8 ∧ la s < 8
def CB (σ : xSt) (o N : Nat) (B : Nat → Nat) : Prop := ∀ s, s < N → σ.1 (o + 4) s = nI (B s) ∧ B s < 16384
def CO (σ : xSt) (o N : Nat) (V : Nat → Nat) : Prop := ∀ s, s < N → σ.1 (o + 5) s = nI (V s) ∧ V s < 16384
def CA (σ : xSt) (o n N : Nat) (P ne fi la : Nat → Nat) : Prop := ∀ s, s < N → ∃ a, σ.1 (o + 8) s = nI a ∧ a < 256 ∧ ∀ c, c < n → a.testBit c = tch P ne fi la s c
def CTr (σ : xSt) (N : Nat) (T : Nat → Nat) : Prop := (∀ s, s < 14 → σ.1 29 s = tI (T s) ∧ T s ≤ 14) ∧ ∀ s, N ≤ s → s < 14 → T s = 0
section
variable {σ : xSt} {n N o : Nat} {P T ne fi la B F V : Nat → Nat}
theorem e0_netOf (h : CP σ n P) {c d : Nat} (hc : c < n) (hd : d < 2) : f_X0_netOf (nI c) (nI d) σ = some (tI (P (2 * c + d)), σ) := by
  obtain ⟨h1, h2, h3⟩ := h
  simp (disch := omega) only [lit_nI, nI_leS, nI_ltS, nI_eqS, nI_clS, nI_add, mulI, tI_leS, tI_ltS, tI_eqS, tI_m1, nI_m1, tI_eqn, tI_eqn2, tI_ltn, tI_nle, tI_len, tI_nlt, gi_nI, gi_lit, gz_nI, bnd_some, jn_def, vb_def, if_true, if_false, b2i_0, b2i_1, b2i_t, b2i_f, gb_b2i, gb_n0, gb_n1, bitN, bit0N, sh1N, orI, andI, e7_within, ite_self, n10, n01, Bool.true_eq_false, Bool.false_eq_true, f_X0_netOf, (h3 (2 * c + d) (by omega)).1]
theorem e0_pinsOf (hP : CP σ n P) {w : Nat} (hw : w ≤ 6) : f_X0_pinsOf (tI w) σ = some (nI (cnt (fun k => decide (P k = w)) (2 * n)), σ) := by
  have hn := hP.2.1
  have h0 := hP.1
  rw [f_X0_pinsOf]
  refine lpF (fun m (a : Int32 × Int32) => f_X0_pinsOf_4 _ _ m a.1 a.2 σ) (fun i => (nI (cnt (fun k => decide (P k = w)) i), nI i)) (2 * n) _ (by omega) (fun m i hi => ?_) (fun m => ?_)
  · have c0 : ¬ 2 * n ≤ i := by omega
    obtain ⟨f1, f2⟩ := hP.2.2 i hi
    simp (disch := omega) only [lit_nI, nI_leS, nI_ltS, nI_eqS, nI_clS, nI_add, mulI, tI_leS, tI_ltS, tI_eqS, tI_m1, nI_m1, tI_eqn, tI_eqn2, tI_ltn, tI_nle, tI_len, tI_nlt, gi_nI, gi_lit, gz_nI, bnd_some, jn_def, vb_def, if_true, if_false, b2i_0, b2i_1, b2i_t, b2i_f, gb_b2i, gb_n0, gb_n1, bitN, bit0N, sh1N, orI, andI, e7_within, ite_self, n10, n01, Bool.true_eq_false, Bool.false_eq_true, f_X0_pinsOf_4, h0, c0, f1, cnt, fo]
    by_cases q : P i = w <;> simp [q]
  · simp (disch := omega) only [lit_nI, nI_leS, nI_ltS, nI_eqS, nI_clS, nI_add, mulI, tI_leS, tI_ltS, tI_eqS, tI_m1, nI_m1, tI_eqn, tI_eqn2, tI_ltn, tI_nle, tI_len, tI_nlt, gi_nI, gi_lit, gz_nI, bnd_some, jn_def, vb_def, if_true, if_false, b2i_0, b2i_1, b2i_t, b2i_f, gb_b2i, gb_n0, gb_n1, bitN, bit0N, sh1N, orI, andI, e7_within, ite_self, n10, n01, Bool.true_eq_false, Bool.false_eq_true, f_X0_pinsOf_4, h0, Nat.le_refl]
theorem e0_columnsWith (hP : CP σ n P) {w : Nat} (hw : w < 6) : f_X0_columnsWith (nI w) σ = some (nI (cmk (hp P w) n), σ) := by
  have hn := hP.2.1
  have h0 := hP.1
  rw [f_X0_columnsWith]
  refine lpF (fun m (a : Int32 × Int32) => f_X0_columnsWith_4 _ _ m a.1 a.2 σ) (fun i => (nI (cmk (hp P w) i), nI i)) n _ (by omega) (fun m i hi => ?_) (fun m => ?_)
  · have c0 : ¬ n ≤ i := by omega
    have p1 := (hP.2.2 (2 * i) (by omega)).2
    have p2 := (hP.2.2 (2 * i + 1) (by omega)).2
    have g0 := e0_netOf hP hi (show 0 < 2 by omega)
    have g1 := e0_netOf hP hi (show 1 < 2 by omega)
    rw [Nat.add_zero] at g0
    simp (disch := omega) only [lit_nI, nI_leS, nI_ltS, nI_eqS, nI_clS, nI_add, mulI, tI_leS, tI_ltS, tI_eqS, tI_m1, nI_m1, tI_eqn, tI_eqn2, tI_ltn, tI_nle, tI_len, tI_nlt, gi_nI, gi_lit, gz_nI, bnd_some, jn_def, vb_def, if_true, if_false, b2i_0, b2i_1, b2i_t, b2i_f, gb_b2i, gb_n0, gb_n1, bitN, bit0N, sh1N, orI, andI, e7_within, ite_self, n10, n01, Bool.true_eq_false, Bool.false_eq_true, f_X0_columnsWith_4, h0, c0, g0, g1]
    have e : cmk (hp P w) (i + 1) = cmk (hp P w) i ||| (if hp P w i then 2 ^ i else 0) := rfl
    rw [e, hp]
    rcases Classical.propComplete (P (2 * i) = w + 1) with q1 | q1 <;> rcases Classical.propComplete (P (2 * i + 1) = w + 1) with q2 | q2 <;> simp [q1, q2]
  · simp (disch := omega) only [lit_nI, nI_leS, nI_ltS, nI_eqS, nI_clS, nI_add, mulI, tI_leS, tI_ltS, tI_eqS, tI_m1, nI_m1, tI_eqn, tI_eqn2, tI_ltn, tI_nle, tI_len, tI_nlt, gi_nI, gi_lit, gz_nI, bnd_some, jn_def, vb_def, if_true, if_false, b2i_0, b2i_1, b2i_t, b2i_f, gb_b2i, gb_n0, gb_n1, bitN, bit0N, sh1N, orI, andI, e7_within, ite_self, n10, n01, Bool.true_eq_false, Bool.false_eq_true, f_X0_columnsWith_4, h0, Nat.le_refl]
theorem e1_placed (hT : CTr σ N T) (hN : N ≤ 14) : f_X1_placed σ = some (nI (cnt (fun s => !decide (T s = 0)) 14), σ) := by
  rw [f_X1_placed]
  refine lpF (fun m (a : Int32 × Int32) => f_X1_placed_4 _ m a.1 a.2 σ) (fun i => (nI (cnt (fun s => !decide (T s = 0)) i), nI i)) 14 _ (by omega) (fun m i hi => ?_) (fun m => ?_)
  · have c0 : ¬ 14 ≤ i := by omega
    obtain ⟨f1, f2⟩ := hT.1 i hi
    simp (disch := omega) only [lit_nI, nI_leS, nI_ltS, nI_eqS, nI_clS, nI_add, mulI, tI_leS, tI_ltS, tI_eqS, tI_m1, nI_m1, tI_eqn, tI_eqn2, tI_ltn, tI_nle, tI_len, tI_nlt, gi_nI, gi_lit, gz_nI, bnd_some, jn_def, vb_def, if_true, if_false, b2i_0, b2i_1, b2i_t, b2i_f, gb_b2i, gb_n0, gb_n1, bitN, bit0N, sh1N, orI, andI, e7_within, ite_self, n10, n01, Bool.true_eq_false, Bool.false_eq_true, f_X1_placed_4, c0, f1, cnt, fo]
    by_cases q : T i = 0 <;> simp [q]
  · simp (disch := omega) only [lit_nI, nI_leS, nI_ltS, nI_eqS, nI_clS, nI_add, mulI, tI_leS, tI_ltS, tI_eqS, tI_m1, nI_m1, tI_eqn, tI_eqn2, tI_ltn, tI_nle, tI_len, tI_nlt, gi_nI, gi_lit, gz_nI, bnd_some, jn_def, vb_def, if_true, if_false, b2i_0, b2i_1, b2i_t, b2i_f, gb_b2i, gb_n0, gb_n1, bitN, bit0N, sh1N, orI, andI, e7_within, ite_self, n10, n01, Bool.true_eq_false, Bool.false_eq_true, f_X1_placed_4, Nat.le_refl]
theorem e1_depth (hT : CTr σ N T) : f_X1_depth σ = some (nI (mxN T 14), σ) := by
  rw [f_X1_depth]
  refine lpF (fun m (a : Int32 × Int32) => f_X1_depth_4 _ m a.1 a.2 σ) (fun i => (tI (mxN T i), nI i)) 14 _ (by omega) (fun m i hi => ?_) (fun m => ?_)
  · have c0 : ¬ 14 ≤ i := by omega
    obtain ⟨f1, f2⟩ := hT.1 i hi
    have hm : mxN T i ≤ 14 := mxN_le (fun j hj => (hT.1 j (by omega)).2)
    simp (disch := omega) only [lit_nI, nI_leS, nI_ltS, nI_eqS, nI_clS, nI_add, mulI, tI_leS, tI_ltS, tI_eqS, tI_m1, nI_m1, tI_eqn, tI_eqn2, tI_ltn, tI_nle, tI_len, tI_nlt, gi_nI, gi_lit, gz_nI, bnd_some, jn_def, vb_def, if_true, if_false, b2i_0, b2i_1, b2i_t, b2i_f, gb_b2i, gb_n0, gb_n1, bitN, bit0N, sh1N, orI, andI, e7_within, ite_self, n10, n01, Bool.true_eq_false, Bool.false_eq_true, f_X1_depth_4, c0, f1]
    have e : mxN T (i + 1) = if T i ≤ mxN T i then mxN T i else T i := rfl
    rw [e]
    by_cases q : T i ≤ mxN T i
    · have q' : ¬ mxN T i < T i := by omega
      simp [q, q']
    · have q' : mxN T i < T i := by omega
      simp [q, q']
  · simp (disch := omega) only [lit_nI, nI_leS, nI_ltS, nI_eqS, nI_clS, nI_add, mulI, tI_leS, tI_ltS, tI_eqS, tI_m1, nI_m1, tI_eqn, tI_eqn2, tI_ltn, tI_nle, tI_len, tI_nlt, gi_nI, gi_lit, gz_nI, bnd_some, jn_def, vb_def, if_true, if_false, b2i_0, b2i_1, b2i_t, b2i_f, gb_b2i, gb_n0, gb_n1, bitN, bit0N, sh1N, orI, andI, e7_within, ite_self, n10, n01, Bool.true_eq_false, Bool.false_eq_true, f_X1_depth_4, Nat.le_refl]
    congr 2
    show nI (mxN T 14) - nI 1 + nI 1 = _
    rw [Int32.sub_add_cancel]
theorem e3_overlap (h : CS σ o N ne fi la) {s t : Nat} (hs : s < N) (ht : t < N) : f_X3_overlap o (nI s) (nI t) σ = some (b2i (met ne fi la s t), σ) := by
  have hN := h.2.1
  obtain ⟨⟨h4, h5, h6⟩, h7, h8, h9⟩ := h.2.2 s hs
  obtain ⟨⟨g4, g5, g6⟩, g7, g8, g9⟩ := h.2.2 t ht
  simp (disch := omega) only [lit_nI, nI_leS, nI_ltS, nI_eqS, nI_clS, nI_add, mulI, tI_leS, tI_ltS, tI_eqS, tI_m1, nI_m1, tI_eqn, tI_eqn2, tI_ltn, tI_nle, tI_len, tI_nlt, gi_nI, gi_lit, gz_nI, bnd_some, jn_def, vb_def, if_true, if_false, b2i_0, b2i_1, b2i_t, b2i_f, gb_b2i, gb_n0, gb_n1, bitN, bit0N, sh1N, orI, andI, e7_within, ite_self, n10, n01, Bool.true_eq_false, Bool.false_eq_true, f_X3_overlap, h4, h5, h6, g4, g5, g6, met]
  have e2 : (fi s ≤ la t) = ¬ la t < fi s := propext (by omega)
  have e3 : (fi t ≤ la s) = ¬ la s < fi t := propext (by omega)
  rcases Classical.propComplete (ne s = ne t) with q1 | q1 <;> rcases Classical.propComplete (la t < fi s) with q2 | q2 <;> rcases Classical.propComplete (la s < fi t) with q3 | q3 <;> simp [e2, e3, q1, q2, q3, b2i_t, b2i_f, gb_n0, gb_n1, n10, nI_eqS]
theorem e3_isAbove (hN : N ≤ 14) (hB : CB σ o N B) {s t : Nat} (hs : s < N) (ht : t < N) : f_X3_isAbove o (nI s) (nI t) σ = some (b2i ((B s).testBit t), σ) := by
  obtain ⟨b1, b2⟩ := hB s hs
  simp (disch := omega) only [lit_nI, nI_leS, nI_ltS, nI_eqS, nI_clS, nI_add, mulI, tI_leS, tI_ltS, tI_eqS, tI_m1, nI_m1, tI_eqn, tI_eqn2, tI_ltn, tI_nle, tI_len, tI_nlt, gi_nI, gi_lit, gz_nI, bnd_some, jn_def, vb_def, if_true, if_false, b2i_0, b2i_1, b2i_t, b2i_f, gb_b2i, gb_n0, gb_n1, bitN, bit0N, sh1N, orI, andI, e7_within, ite_self, n10, n01, Bool.true_eq_false, Bool.false_eq_true, f_X3_isAbove, b1]
  cases (B s).testBit t <;> simp [b2i_t, b2i_f, gb_n0, gb_n1]
theorem e3_covers (h : CS σ o N ne fi la) {s c : Nat} (hs : s < N) (hc : c < 100) : f_X3_covers o (nI s) (nI c) σ = some (b2i (wi fi la s c), σ) := by
  have hN := h.2.1
  obtain ⟨⟨h4, h5, h6⟩, h7, h8, h9⟩ := h.2.2 s hs
  simp (disch := omega) only [lit_nI, nI_leS, nI_ltS, nI_eqS, nI_clS, nI_add, mulI, tI_leS, tI_ltS, tI_eqS, tI_m1, nI_m1, tI_eqn, tI_eqn2, tI_ltn, tI_nle, tI_len, tI_nlt, gi_nI, gi_lit, gz_nI, bnd_some, jn_def, vb_def, if_true, if_false, b2i_0, b2i_1, b2i_t, b2i_f, gb_b2i, gb_n0, gb_n1, bitN, bit0N, sh1N, orI, andI, e7_within, ite_self, n10, n01, Bool.true_eq_false, Bool.false_eq_true, f_X3_covers, h5, h6, wi]
  have e2 : (fi s ≤ c) = ¬ c < fi s := propext (by omega)
  have e3 : (c ≤ la s) = ¬ la s < c := propext (by omega)
  rcases Classical.propComplete (c < fi s) with q2 | q2 <;> rcases Classical.propComplete (la s < c) with q3 | q3 <;> simp [e2, e3, q2, q3, b2i_t, b2i_f, gb_n0, gb_n1]
theorem e3_isJoined (h : CS σ o N ne fi la) (hA : CA σ o n N P ne fi la) (hn : n ≤ 8) {s w c : Nat} (hs : s < N) (hw : w < 6) (hc : c < n) : f_X3_isJoined o (nI s) (nI w) (nI c) σ = some (b2i (decide (ne s = w) && tch P ne fi la s c), σ) := by
  have hN := h.2.1
  obtain ⟨⟨h4, h5, h6⟩, h7, h8, h9⟩ := h.2.2 s hs
  obtain ⟨a, a1, a2, a3⟩ := hA s hs
  simp (disch := omega) only [lit_nI, nI_leS, nI_ltS, nI_eqS, nI_clS, nI_add, mulI, tI_leS, tI_ltS, tI_eqS, tI_m1, nI_m1, tI_eqn, tI_eqn2, tI_ltn, tI_nle, tI_len, tI_nlt, gi_nI, gi_lit, gz_nI, bnd_some, jn_def, vb_def, if_true, if_false, b2i_0, b2i_1, b2i_t, b2i_f, gb_b2i, gb_n0, gb_n1, bitN, bit0N, sh1N, orI, andI, e7_within, ite_self, n10, n01, Bool.true_eq_false, Bool.false_eq_true, f_X3_isJoined, h4, a1, a3 c hc]
  rcases Classical.propComplete (ne s = w) with q2 | q2 <;> cases tch P ne fi la s c <;> simp [q2, b2i_t, b2i_f, gb_n0, gb_n1]
end
