/-- the same, for every continuation -/
theorem lpK {K A R : Type} (F : K → Nat → A → R) (I : Nat → A → Prop) (N : Nat) (out : K → A → R) (hN : N ≤ 1000000) (hs : ∀ n i a, i < N → I i a → ∃ a', I (i + 1) a' ∧ ∀ k, F k (n + 1) a = F k n a') (he : ∀ n a, I N a → ∀ k, F k (n + 1) a = out k a) (a : A) (h0 : I 0 a) : ∃ a', I N a' ∧ ∀ k, F k FU a = out k a' := by
  obtain ⟨a', h1, h2⟩ := lpI (fun n a k => F k n a) I N (fun a k => out k a) hN (fun n i a hi hI => by
    obtain ⟨a', h1, h2⟩ := hs n i a hi hI
    exact ⟨a', h1, funext h2⟩) (fun n a hI => funext (he n a hI)) a h0
  exact ⟨a', h1, fun k => congrFun h2 k⟩
section
variable {σ : xSt} {n : Nat} {P : Nat → Nat} {L : List (Nat × Nat × Nat)}
def s6 (t : Nat) (c k : Nat) : Bool := decide (c = 6) && decide (k = t)
theorem s6_B (t : Nat) : ∀ c k, sB c k = false → s6 t c k = false := by
  intro c k h
  simp only [sB, Bool.or_eq_false_iff, decide_eq_false_iff_not] at h
  simp [s6, h.1]
theorem e7_under (hP : MP σ n P) (h : HM σ L) (hl : L.length ≤ 14) (ho : okL L) {s : Nat} (hs : s < L.length) (h6 : σ.1 6 s = nI 0) : ∃ σ', σ'.1 6 s = nI (bel P n L s) ∧ Fr (s6 s) σ σ' ∧ ∀ k, f_X7_laySegments_48 (nI s) k FU (nI 0) σ = k σ' := by
  have hn := hP.2.1
  have hst := lpK (fun k m (a : Int32 × xSt) => f_X7_laySegments_48 (nI s) k m a.1 a.2) (fun i a => a.1 = nI i ∧ a.2.1 6 s = nI (cmk (abv P (gN L) (gF L) (gL L) n s) i) ∧ Fr (s6 s) σ a.2) L.length (fun k a => k a.2) (by omega) (fun m i a hi hI => ?_) (fun m a hI => ?_) (nI 0, σ) ⟨rfl, h6, Fr.rf⟩
  · obtain ⟨⟨a1, τ⟩, ⟨i1, i2, i3⟩, i4⟩ := hst
    exact ⟨τ, i2, i3, i4⟩
  · obtain ⟨a1, τ⟩ := a
    obtain ⟨i1, i2, i3⟩ := hI
    dsimp only at i1 i2 i3 ⊢
    subst i1
    have c0 : ¬ L.length ≤ i := by omega
    have fB := i3.mono (s6_B s)
    have hP' := hP.frB fB
    have hM' := h.frB fB
    have e : cmk (abv P (gN L) (gF L) (gL L) n s) (i + 1) = cmk (abv P (gN L) (gF L) (gL L) n s) i ||| (if abv P (gN L) (gF L) (gL L) n s i then 2 ^ i else 0) := rfl
    refine ⟨(nI (i + 1), up2 τ 6 s (nI (cmk (abv P (gN L) (gF L) (gL L) n s) (i + 1)))), ⟨rfl, up2_same _ _ _ _, i3.tr (Fr.up (by simp [s6]))⟩, fun k => ?_⟩
    rw [e]
    simp (disch := omega) only [lit_nI, nI_leS, nI_ltS, nI_eqS, nI_clS, nI_add, mulI, tI_leS, tI_ltS, tI_eqS, tI_m1, nI_m1, tI_eqn, tI_eqn2, tI_ltn, tI_nle, tI_len, tI_nlt, gi_nI, gi_lit, gz_nI, bnd_some, jn_def, vb_def, if_true, if_false, b2i_0, b2i_1, b2i_t, b2i_f, gb_b2i, gb_n0, gb_n1, bitN, bit0N, sh1N, orI, andI, e7_within, ite_self, n10, n01, Bool.true_eq_false, Bool.false_eq_true, f_X7_laySegments_48, hM'.1, c0, e7_isAbove hP' (hM'.ms hl ho) hs hi, i2]
    rcases Bool.eq_false_or_eq_true (abv P (gN L) (gF L) (gL L) n s i) with b1 | b1 <;> simp [b1]
  · obtain ⟨a1, τ⟩ := a
    obtain ⟨i1, i2, i3⟩ := hI
    dsimp only at i1 i2 i3 ⊢
    subst i1
    intro k
    have hM' := h.frB (i3.mono (s6_B s))
    simp (disch := omega) only [lit_nI, nI_leS, nI_ltS, nI_eqS, nI_clS, nI_add, mulI, tI_leS, tI_ltS, tI_eqS, tI_m1, nI_m1, tI_eqn, tI_eqn2, tI_ltn, tI_nle, tI_len, tI_nlt, gi_nI, gi_lit, gz_nI, bnd_some, jn_def, vb_def, if_true, if_false, b2i_0, b2i_1, b2i_t, b2i_f, gb_b2i, gb_n0, gb_n1, bitN, bit0N, sh1N, orI, andI, e7_within, ite_self, n10, n01, Bool.true_eq_false, Bool.false_eq_true, f_X7_laySegments_48, hM'.1, Nat.le_refl]
theorem e7_unders (hP : MP σ n P) (h : HM σ L) (hl : L.length ≤ 14) (ho : okL L) : ∃ σ', (∀ s, s < L.length → σ'.1 6 s = nI (bel P n L s) ∧ σ'.1 7 s = nI (bel P n L s)) ∧ Fr sB σ σ' ∧ ∀ k, f_X7_laySegments_31 k FU (nI 0) σ = k σ' := by
  have hn := hP.2.1
  have hst := lpK (fun k m (a : Int32 × xSt) => f_X7_laySegments_31 k m a.1 a.2) (fun i a => a.1 = nI i ∧ (∀ s, s < i → a.2.1 6 s = nI (bel P n L s) ∧ a.2.1 7 s = nI (bel P n L s)) ∧ Fr sB σ a.2) L.length (fun k a => k a.2) (by omega) (fun m i a hi hI => ?_) (fun m a hI => ?_) (nI 0, σ) ⟨rfl, fun s hs => absurd hs (Nat.not_lt_zero s), Fr.rf⟩
  · obtain ⟨⟨a1, τ⟩, ⟨i1, i2, i3⟩, i4⟩ := hst
    exact ⟨τ, i2, i3, i4⟩
  · obtain ⟨a1, τ⟩ := a
    obtain ⟨i1, i2, i3⟩ := hI
    dsimp only at i1 i2 i3 ⊢
    subst i1
    have c0 : ¬ L.length ≤ i := by omega
    have hP' := hP.frB i3
    have hM' := h.frB i3
    have f0 : Fr sB τ (up2 τ 6 i (nI 0)) := Fr.up (by simp [sB])
    obtain ⟨τ', g1, g2, g3⟩ := e7_under (hP'.frB f0) (hM'.frB f0) hl ho hi (up2_same _ _ _ _)
    refine ⟨(nI (i + 1), up2 τ' 7 i (nI (bel P n L i))), ⟨rfl, fun s hs => ?_, i3.tr (f0.tr ((g2.mono (s6_B i)).tr (Fr.up (by simp [sB]))))⟩, fun k => ?_⟩
    · by_cases e : s = i
      · subst e
        exact ⟨by rw [up2_cell _ _ _ _ (by decide)]; exact g1, up2_same _ _ _ _⟩
      · obtain ⟨u1, u2⟩ := i2 s (by omega)
        refine ⟨?_, ?_⟩
        · rw [up2_cell _ _ _ _ (by decide), g2.1 6 s (by simp [s6, e]), up2_place _ _ _ _ e, u1]
        · rw [up2_place _ _ _ _ e, g2.1 7 s (by simp [s6]), up2_cell _ _ _ _ (by decide), u2]
    · simp (disch := omega) only [lit_nI, nI_leS, nI_ltS, nI_eqS, nI_clS, nI_add, mulI, tI_leS, tI_ltS, tI_eqS, tI_m1, nI_m1, tI_eqn, tI_eqn2, tI_ltn, tI_nle, tI_len, tI_nlt, gi_nI, gi_lit, gz_nI, bnd_some, jn_def, vb_def, if_true, if_false, b2i_0, b2i_1, b2i_t, b2i_f, gb_b2i, gb_n0, gb_n1, bitN, bit0N, sh1N, orI, andI, e7_within, ite_self, n10, n01, Bool.true_eq_false, Bool.false_eq_true, f_X7_laySegments_31, hM'.1, c0, g3, g1]
  · obtain ⟨a1, τ⟩ := a
    obtain ⟨i1, i2, i3⟩ := hI
    dsimp only at i1 i2 i3 ⊢
    subst i1
    intro k
    have hM' := h.frB i3
    simp (disch := omega) only [lit_nI, nI_leS, nI_ltS, nI_eqS, nI_clS, nI_add, mulI, tI_leS, tI_ltS, tI_eqS, tI_m1, nI_m1, tI_eqn, tI_eqn2, tI_ltn, tI_nle, tI_len, tI_nlt, gi_nI, gi_lit, gz_nI, bnd_some, jn_def, vb_def, if_true, if_false, b2i_0, b2i_1, b2i_t, b2i_f, gb_b2i, gb_n0, gb_n1, bitN, bit0N, sh1N, orI, andI, e7_within, ite_self, n10, n01, Bool.true_eq_false, Bool.false_eq_true, f_X7_laySegments_31, hM'.1, Nat.le_refl]
def s7 (c _ : Nat) : Bool := decide (c = 7)
theorem s7_B : ∀ c k, sB c k = false → s7 c k = false := by
  intro c k h
  simp only [sB, Bool.or_eq_false_iff, decide_eq_false_iff_not] at h
  simp [s7, h.2]
theorem fwS_self (F : Nat → Nat) (b : Nat) : fwS F b b = F b := by
  rw [fwS]; split
  · exact Nat.or_self _
  · rfl
theorem e7_far1 {N : Nat} {F : Nat → Nat} (h0 : σ.1 0 4 = nI N) (hN : N ≤ 14) (hF : MF σ N F) {b : Nat} (hb : b < N) : ∃ σ', MF σ' N (fwS F b) ∧ Fr s7 σ σ' ∧ ∀ k, f_X7_laySegments_117 (nI b) k FU (nI 0) σ = k σ' := by
  have hst := lpK (fun k m (a : Int32 × xSt) => f_X7_laySegments_117 (nI b) k m a.1 a.2) (fun i a => a.1 = nI i ∧ (∀ s, s < N → a.2.1 7 s = nI (if s < i then fwS F b s else F s)) ∧ Fr s7 σ a.2) N (fun k a => k a.2) (by omega) (fun m i a hi hI => ?_) (fun m a hI => ?_) (nI 0, σ) ⟨rfl, fun s hs => by rw [if_neg (Nat.not_lt_zero s)]; exact (hF s hs).1, Fr.rf⟩
  · obtain ⟨⟨a1, τ⟩, ⟨i1, i2, i3⟩, i4⟩ := hst
    refine ⟨τ, fun s hs => ⟨?_, fwS_lt hb (fun s hs => (hF s hs).2) s hs⟩, i3, i4⟩
    have := i2 s hs
    rw [if_pos hs] at this
    exact this
  · obtain ⟨a1, τ⟩ := a
    obtain ⟨i1, i2, i3⟩ := hI
    dsimp only at i1 i2 i3 ⊢
    subst i1
    have c0 : ¬ N ≤ i := by omega
    have h0' : τ.1 0 4 = nI N := (i3.1 0 4 rfl).trans h0
    have ri : τ.1 7 i = nI (F i) := by rw [i2 i hi, if_neg (Nat.lt_irrefl i)]
    have rb : τ.1 7 b = nI (F b) := by
      rw [i2 b hb]
      split
      · rw [fwS_self]
      · rfl
    have li := (hF i hi).2
    refine ⟨(nI (i + 1), up2 τ 7 i (nI (fwS F b i))), ⟨rfl, fun s hs => ?_, i3.tr (Fr.up rfl)⟩, fun k => ?_⟩
    · by_cases e : s = i
      · subst e
        rw [if_pos (Nat.lt_succ_self s)]
        exact up2_same _ _ _ _
      · rw [up2_place _ _ _ _ e, i2 s hs]
        have : (s < i) = (s < i + 1) := propext (by omega)
        simp only [this]
    · simp (disch := omega) only [lit_nI, nI_leS, nI_ltS, nI_eqS, nI_clS, nI_add, mulI, tI_leS, tI_ltS, tI_eqS, tI_m1, nI_m1, tI_eqn, tI_eqn2, tI_ltn, tI_nle, tI_len, tI_nlt, gi_nI, gi_lit, gz_nI, bnd_some, jn_def, vb_def, if_true, if_false, b2i_0, b2i_1, b2i_t, b2i_f, gb_b2i, gb_n0, gb_n1, bitN, bit0N, sh1N, orI, andI, e7_within, ite_self, n10, n01, Bool.true_eq_false, Bool.false_eq_true, f_X7_laySegments_117, h0', c0, ri, rb, e7_isBit, fwS]
      rcases Bool.eq_false_or_eq_true ((F i).testBit b) with b1 | b1 <;> simp [b1]
  · obtain ⟨a1, τ⟩ := a
    obtain ⟨i1, i2, i3⟩ := hI
    dsimp only at i1 i2 i3 ⊢
    subst i1
    intro k
    have h0' : τ.1 0 4 = nI N := (i3.1 0 4 rfl).trans h0
    simp (disch := omega) only [lit_nI, nI_leS, nI_ltS, nI_eqS, nI_clS, nI_add, mulI, tI_leS, tI_ltS, tI_eqS, tI_m1, nI_m1, tI_eqn, tI_eqn2, tI_ltn, tI_nle, tI_len, tI_nlt, gi_nI, gi_lit, gz_nI, bnd_some, jn_def, vb_def, if_true, if_false, b2i_0, b2i_1, b2i_t, b2i_f, gb_b2i, gb_n0, gb_n1, bitN, bit0N, sh1N, orI, andI, e7_within, ite_self, n10, n01, Bool.true_eq_false, Bool.false_eq_true, f_X7_laySegments_117, h0', Nat.le_refl]
theorem e7_far {N : Nat} {F : Nat → Nat} (h0 : σ.1 0 4 = nI N) (hN : N ≤ 14) (hF : MF σ N F) : ∃ σ', MF σ' N (far F N) ∧ Fr s7 σ σ' ∧ ∀ k, f_X7_laySegments_107 k FU (nI 0) σ = k σ' := by
  have hst := lpK (fun k m (a : Int32 × xSt) => f_X7_laySegments_107 k m a.1 a.2) (fun i a => a.1 = nI i ∧ MF a.2 N (far F i) ∧ Fr s7 σ a.2) N (fun k a => k a.2) (by omega) (fun m i a hi hI => ?_) (fun m a hI => ?_) (nI 0, σ) ⟨rfl, hF, Fr.rf⟩
  · obtain ⟨⟨a1, τ⟩, ⟨i1, i2, i3⟩, i4⟩ := hst
    exact ⟨τ, i2, i3, i4⟩
  · obtain ⟨a1, τ⟩ := a
    obtain ⟨i1, i2, i3⟩ := hI
    dsimp only at i1 i2 i3 ⊢
    subst i1
    have c0 : ¬ N ≤ i := by omega
    have h0' : τ.1 0 4 = nI N := (i3.1 0 4 rfl).trans h0
    obtain ⟨τ', g1, g2, g3⟩ := e7_far1 h0' hN i2 hi
    refine ⟨(nI (i + 1), τ'), ⟨rfl, g1, i3.tr g2⟩, fun k => ?_⟩
    simp (disch := omega) only [lit_nI, nI_leS, nI_ltS, nI_eqS, nI_clS, nI_add, mulI, tI_leS, tI_ltS, tI_eqS, tI_m1, nI_m1, tI_eqn, tI_eqn2, tI_ltn, tI_nle, tI_len, tI_nlt, gi_nI, gi_lit, gz_nI, bnd_some, jn_def, vb_def, if_true, if_false, b2i_0, b2i_1, b2i_t, b2i_f, gb_b2i, gb_n0, gb_n1, bitN, bit0N, sh1N, orI, andI, e7_within, ite_self, n10, n01, Bool.true_eq_false, Bool.false_eq_true, f_X7_laySegments_107, h0', c0, g3]
  · obtain ⟨a1, τ⟩ := a
    obtain ⟨i1, i2, i3⟩ := hI
    dsimp only at i1 i2 i3 ⊢
    subst i1
    intro k
    have h0' : τ.1 0 4 = nI N := (i3.1 0 4 rfl).trans h0
    simp (disch := omega) only [lit_nI, nI_leS, nI_ltS, nI_eqS, nI_clS, nI_add, mulI, tI_leS, tI_ltS, tI_eqS, tI_m1, nI_m1, tI_eqn, tI_eqn2, tI_ltn, tI_nle, tI_len, tI_nlt, gi_nI, gi_lit, gz_nI, bnd_some, jn_def, vb_def, if_true, if_false, b2i_0, b2i_1, b2i_t, b2i_f, gb_b2i, gb_n0, gb_n1, bitN, bit0N, sh1N, orI, andI, e7_within, ite_self, n10, n01, Bool.true_eq_false, Bool.false_eq_true, f_X7_laySegments_107, h0', Nat.le_refl]
theorem e7_nets (hP : MP σ n P) {C : Nat} (hC : C < 64) (h0 : σ.1 0 4 = nI 0) : ∃ σ', HM σ' (sgs P n C 6) ∧ Fr sS σ σ' ∧ ∀ k, f_X7_laySegments_7 (nI C) k FU (nI 0) σ = k σ' := by
  have hn := hP.2.1
  have hst := lpK (fun k m (a : Int32 × xSt) => f_X7_laySegments_7 (nI C) k m a.1 a.2) (fun i a => a.1 = nI i ∧ HM a.2 (sgs P n C i) ∧ Fr sS σ a.2) 6 (fun k a => k a.2) (by omega) (fun m i a hi hI => ?_) (fun m a hI => ?_) (nI 0, σ) ⟨rfl, ⟨h0, fun s hs => absurd hs (Nat.not_lt_zero s)⟩, Fr.rf⟩
  · obtain ⟨⟨a1, τ⟩, ⟨i1, i2, i3⟩, i4⟩ := hst
    exact ⟨τ, i2, i3, i4⟩
  · obtain ⟨a1, τ⟩ := a
    obtain ⟨i1, i2, i3⟩ := hI
    dsimp only at i1 i2 i3 ⊢
    subst i1
    have c0 : ¬ 6 ≤ i := by omega
    obtain ⟨τ', g1, g2, g3⟩ := e7_layNet (C := C) (hP.fr i3) i2 hi (sgs_w hi hn (fun k hk => (hP.2.2 k hk).2))
    refine ⟨(nI (i + 1), τ'), ⟨rfl, g2, i3.tr g3⟩, fun k => ?_⟩
    simp (disch := omega) only [lit_nI, nI_leS, nI_ltS, nI_eqS, nI_clS, nI_add, mulI, tI_leS, tI_ltS, tI_eqS, tI_m1, nI_m1, tI_eqn, tI_eqn2, tI_ltn, tI_nle, tI_len, tI_nlt, gi_nI, gi_lit, gz_nI, bnd_some, jn_def, vb_def, if_true, if_false, b2i_0, b2i_1, b2i_t, b2i_f, gb_b2i, gb_n0, gb_n1, bitN, bit0N, sh1N, orI, andI, e7_within, ite_self, n10, n01, Bool.true_eq_false, Bool.false_eq_true, f_X7_laySegments_7, c0, e7_isBit, g1]
  · obtain ⟨a1, τ⟩ := a
    obtain ⟨i1, i2, i3⟩ := hI
    dsimp only at i1 i2 i3 ⊢
    subst i1
    intro k
    simp (disch := omega) only [lit_nI, nI_leS, nI_ltS, nI_eqS, nI_clS, nI_add, mulI, tI_leS, tI_ltS, tI_eqS, tI_m1, nI_m1, tI_eqn, tI_eqn2, tI_ltn, tI_nle, tI_len, tI_nlt, gi_nI, gi_lit, gz_nI, bnd_some, jn_def, vb_def, if_true, if_false, b2i_0, b2i_1, b2i_t, b2i_f, gb_b2i, gb_n0, gb_n1, bitN, bit0N, sh1N, orI, andI, e7_within, ite_self, n10, n01, Bool.true_eq_false, Bool.false_eq_true, f_X7_laySegments_7, Nat.le_refl]
/-- the reference lays its segments, which is above which, and which is far above which -/
theorem e7_laySegments (hP : MP σ n P) {C : Nat} (hC : C < 64) : ∃ σ', f_X7_laySegments (nI C) σ = some ((), σ') ∧ HM σ' (sgs P n C 6) ∧ MB σ' (sgs P n C 6).length (bel P n (sgs P n C 6)) ∧ MF σ' (sgs P n C 6).length (far (bel P n (sgs P n C 6)) (sgs P n C 6).length) ∧ Fr sA σ σ' := by
  have hn := hP.2.1
  have hp6 := fun k hk => (hP.2.2 k hk).2
  have hl := sgs_len (C := C) hn hp6
  have ho := sgs_ok (P := P) (C := C) hn (Nat.le_refl 6)
  have f0 : Fr sS σ (up2 σ 0 4 (nI 0)) := Fr.up rfl
  obtain ⟨τ1, a1, a2, a3⟩ := e7_nets (hP.fr f0) hC (up2_same _ _ _ _)
  generalize sgs P n C 6 = L at *
  have hP1 := (hP.fr f0).fr a2
  obtain ⟨τ2, b1, b2, b3⟩ := e7_unders hP1 a1 hl ho
  have hM2 := a1.frB b2
  obtain ⟨τ3, c1, c2, c3⟩ := e7_far (F := bel P n L) hM2.1 hl (fun s hs => ⟨(b1 s hs).2, cmk14 hl⟩)
  refine ⟨τ3, ?_, hM2.frB (c2.mono s7_B), fun s hs => ⟨(c2.1 6 s rfl).trans (b1 s hs).1, cmk14 hl⟩, c1, ?_⟩
  · simp (disch := omega) only [lit_nI, nI_leS, nI_ltS, nI_eqS, nI_clS, nI_add, mulI, tI_leS, tI_ltS, tI_eqS, tI_m1, nI_m1, tI_eqn, tI_eqn2, tI_ltn, tI_nle, tI_len, tI_nlt, gi_nI, gi_lit, gz_nI, bnd_some, jn_def, vb_def, if_true, if_false, b2i_0, b2i_1, b2i_t, b2i_f, gb_b2i, gb_n0, gb_n1, bitN, bit0N, sh1N, orI, andI, e7_within, ite_self, n10, n01, Bool.true_eq_false, Bool.false_eq_true, f_X7_laySegments, a3, b3, c3]
  · have hBA : ∀ c k, sA c k = false → sB c k = false := by
      intro c k h
      simp only [sA, Bool.or_eq_false_iff] at h
      simp [sB, h.2.1, h.2.2]
    exact ((f0.tr a2).mono sS_A).tr ((b2.mono hBA).tr ((c2.mono s7_B).mono hBA))
end
