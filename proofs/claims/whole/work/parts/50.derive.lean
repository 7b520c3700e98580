/-! ===== all that follows from pins and cuts ===== -/
theorem rng_uniq {B : Nat → Nat} {N a l a' l' : Nat} (h : rng B N a l) (h' : rng B N a' l') : a = a' ∧ l = l' := by
  have e1 := h.2.2.2.1 a' h'.1 (by have := h'.2.1; have := h'.2.2.1; omega)
  have e2 := h'.2.2.2.1 a h.1 (by have := h.2.1; have := h.2.2.1; omega)
  have q1 := h.2.2.1
  have q2 := h'.2.2.1
  have q3 := h.2.1
  have hl : l = l' := by omega
  refine ⟨?_, hl⟩
  rcases Nat.lt_trichotomy a a' with g | g | g
  · have := h'.2.2.2.2 a g (by omega); omega
  · exact g
  · have := h.2.2.2.2 a' g (by omega); omega
def CRg (σ : xSt) (B : Nat → Nat) (N : Nat) : Prop := (¬ cyc B N → σ.1 23 1 = nI 0) ∧ ∀ a l, rng B N a l → σ.1 23 1 = nI l ∧ ∀ k, k < l → σ.1 24 k = nI (rg B N a l k)
def MRg (σ : xSt) (B : Nat → Nat) (N : Nat) : Prop := (¬ cyc B N → σ.1 0 11 = nI 0) ∧ ∀ a l, rng B N a l → σ.1 0 11 = nI l ∧ ∀ k, k < l → σ.1 8 k = nI (rg B N a l k)
def CZo (σ : xSt) (X : Nat → Nat) (n : Nat) : Prop := σ.1 25 3 = nI (mxN (fun c => pc (X c) 16) n) ∧ σ.1 25 2 = nI (cnt (zoneB X n) n) ∧ ∀ c, c < n → zoneB X n c = true → σ.1 27 (cnt (zoneB X n) c) = nI (X c)
section
variable {σ : xSt} {n C : Nat} {P : Nat → Nat}
theorem e1_takeAllAway : ∃ σ', f_X1_takeAllAway σ = some ((), σ') ∧ (∀ s, s < 14 → σ'.1 29 s = -nI 1) ∧ Fr (sR 29) σ σ' := by
  obtain ⟨⟨y, τ⟩, ⟨i1, i2, i3⟩, i4⟩ := lpK (fun kk q (x : Int32 × xSt) => f_X1_takeAllAway_2 kk q x.1 x.2) (fun i y => y.1 = nI i ∧ (∀ s, s < i → y.2.1 29 s = -nI 1) ∧ Fr (sR 29) σ y.2) 14 (fun kk y => kk y.2) (by omega) (fun q i y hi hI => by
    obtain ⟨y1, τ⟩ := y
    obtain ⟨i1, i2, i3⟩ := hI
    dsimp only at i1 i2 i3 ⊢
    subst i1
    have c0 : ¬ 14 ≤ i := by omega
    refine ⟨(nI (i + 1), up2 τ 29 i (-nI 1)), ⟨rfl, fun s hs => ?_, i3.tr (Fr.up rfl)⟩, fun kk => ?_⟩
    · show (up2 τ 29 i _).1 29 s = _
      by_cases e : s = i
      · subst e; exact up2_same _ _ _ _
      · rw [up2_place _ _ _ _ e]; exact i2 s (by omega)
    · simp (disch := omega) only [lit_nI, nI_leS, nI_ltS, nI_eqS, nI_clS, nI_add, mulI, tI_leS, tI_ltS, tI_eqS, tI_m1, nI_m1, tI_eqn, tI_eqn2, tI_ltn, tI_nle, tI_len, tI_nlt, gi_nI, gi_lit, gz_nI, bnd_some, jn_def, vb_def, if_true, if_false, b2i_0, b2i_1, b2i_t, b2i_f, gb_b2i, gb_n0, gb_n1, bitN, bit0N, sh1N, orI, andI, e7_within, ite_self, n10, n01, Bool.true_eq_false, Bool.false_eq_true, f_X1_takeAllAway_2, c0]) (fun q y hI => by
    obtain ⟨y1, τ⟩ := y
    obtain ⟨i1, i2, i3⟩ := hI
    dsimp only at i1 i2 i3 ⊢
    subst i1
    intro kk
    simp (disch := omega) only [lit_nI, nI_leS, nI_ltS, nI_eqS, nI_clS, nI_add, mulI, tI_leS, tI_ltS, tI_eqS, tI_m1, nI_m1, tI_eqn, tI_eqn2, tI_ltn, tI_nle, tI_len, tI_nlt, gi_nI, gi_lit, gz_nI, bnd_some, jn_def, vb_def, if_true, if_false, b2i_0, b2i_1, b2i_t, b2i_f, gb_b2i, gb_n0, gb_n1, bitN, bit0N, sh1N, orI, andI, e7_within, ite_self, n10, n01, Bool.true_eq_false, Bool.false_eq_true, f_X1_takeAllAway_2, Nat.le_refl]) (nI 0, σ) ⟨rfl, fun s hs => absurd hs (Nat.not_lt_zero s), Fr.rf⟩
  dsimp only at i1 i2 i3 i4
  refine ⟨τ, ?_, i2, i3⟩
  simp (disch := omega) only [lit_nI, nI_leS, nI_ltS, nI_eqS, nI_clS, nI_add, mulI, tI_leS, tI_ltS, tI_eqS, tI_m1, nI_m1, tI_eqn, tI_eqn2, tI_ltn, tI_nle, tI_len, tI_nlt, gi_nI, gi_lit, gz_nI, bnd_some, jn_def, vb_def, if_true, if_false, b2i_0, b2i_1, b2i_t, b2i_f, gb_b2i, gb_n0, gb_n1, bitN, bit0N, sh1N, orI, andI, e7_within, ite_self, n10, n01, Bool.true_eq_false, Bool.false_eq_true, f_X1_takeAllAway, i4]
/-- what deriving may change in the class -/
def sDC (c k : Nat) : Bool := sC 5 c k || (sK c k || (sZ c k || sR 29 c k))
theorem sDC_1 : ∀ c k, sDC c k = false → sC 5 c k = false ∧ sK c k = false ∧ sZ c k = false ∧ sR 29 c k = false := by
  intro c k h
  simp only [sDC, Bool.or_eq_false_iff] at h
  exact ⟨h.1, h.2.1, h.2.2.1, h.2.2.2⟩
theorem CW.fr {σ' : xSt} {o : Nat} {L : List (Nat × Nat × Nat)} (h : CW σ o n P L) (hf : ∀ c k, sC o c k = true → σ'.1 c k = σ.1 c k) : CW σ' o n P L := by
  have u : ∀ d k, d ≤ 8 → σ'.1 (o + d) k = σ.1 (o + d) k := fun d k hd => hf _ _ (by simp [sC]; omega)
  have u0 : ∀ k, σ'.1 o k = σ.1 o k := fun k => hf _ _ (by simp [sC])
  obtain ⟨⟨⟨h1, h2, h3⟩, h4⟩, h5, h6, h7, h8⟩ := h
  refine ⟨⟨⟨(u0 8).trans h1, h2, fun s hs => ?_⟩, fun s hs => ?_⟩, fun s hs => ⟨(u 4 s (by omega)).trans (h5 s hs).1, (h5 s hs).2⟩, fun s hs => ⟨(u 5 s (by omega)).trans (h6 s hs).1, (h6 s hs).2⟩, fun hc => ?_, fun hc => ?_⟩
  · obtain ⟨⟨a1, a2, a3⟩, a4⟩ := h3 s hs
    exact ⟨⟨(u 1 s (by omega)).trans a1, (u 2 s (by omega)).trans a2, (u 3 s (by omega)).trans a3⟩, a4⟩
  · obtain ⟨a, a1, a2⟩ := h4 s hs
    exact ⟨a, (u 8 s (by omega)).trans a1, a2⟩
  · obtain ⟨a1, a2, a3⟩ := h7 hc
    exact ⟨(u0 9).trans a1, fun s hs => (u 6 s (by omega)).trans (a2 s hs), fun s hs => (u 7 s (by omega)).trans (a3 s hs)⟩
  · obtain ⟨a1, a2⟩ := h8 hc
    exact ⟨(u0 9).trans a1, fun s hs => (u 6 s (by omega)).trans (a2 s hs)⟩
theorem e6_derive (hP : CP σ n P) (hC : C < 64) (hs : σ.1 0 7 = nI C) : ∃ σ', f_X6_derive σ = some ((), σ') ∧ CW σ' 5 n P (sgs P n C 6) ∧ CRg σ' (bel P n (sgs P n C 6)) (sgs P n C 6).length ∧ CZo σ' (xs (gN (sgs P n C 6)) (gF (sgs P n C 6)) (gL (sgs P n C 6)) (sgs P n C 6).length) n ∧ (∀ s, s < 14 → σ'.1 29 s = -nI 1) ∧ Fr sDC σ σ' := by
  have hn := hP.2.1
  have hp6 := fun k hk => (hP.2.2 k hk).2
  have hl := sgs_len (C := C) hn hp6
  obtain ⟨τ1, a1, a2, a3⟩ := e3_build (o := 5) (by omega) hP hC
  generalize sgs P n C 6 = L at *
  have hBb : ∀ s, s < L.length → ∀ t, (bel P n L s).testBit t = true → t < L.length := fun s _ t => bel_lt s t
  have hD := a2.1
  have h0 := hD.1.1
  have ring : ∃ τ2, f_X2_find τ1 = some ((), τ2) ∧ CRg τ2 (bel P n L) L.length ∧ Fr sK τ1 τ2 := by
    by_cases hc : cyc (bel P n L) L.length
    · obtain ⟨a, l, hr⟩ := rng_ex hBb hc
      obtain ⟨τ2, b1, b2, b3, b4⟩ := e2_find_cyc hBb h0 hl a2.2.1 (a2.2.2.2.2 hc).1 hr
      refine ⟨τ2, b1, ⟨fun h => absurd hc h, fun a' l' hr' => ?_⟩, b4⟩
      obtain ⟨rfl, rfl⟩ := rng_uniq hr hr'
      exact ⟨b2, b3⟩
    · have hr := (a2.2.2.2.1 hc).1
      have hle := rnd_le (V := prd (bel P n L) L.length) (fun h => hc ((cyc_rev (fun s t => prd_eg)).mpr h))
      obtain ⟨τ2, b1, b2, b3⟩ := e2_find_no (by omega) hr
      refine ⟨τ2, b1, ⟨fun _ => b2, fun a l hr' => absurd ⟨a, l, hr'.2.1, rng_wk hBb hr'⟩ hc⟩, b3⟩
  obtain ⟨τ2, b1, b2, b3⟩ := ring
  have hkC : ∀ c k, sC 5 c k = true → sK c k = false := by
    intro c k h
    simp only [sC, Bool.and_eq_true, decide_eq_true_eq] at h
    simp only [sK, Bool.or_eq_false_iff, Bool.and_eq_false_iff, decide_eq_false_iff_not]
    omega
  have hzC : ∀ c k, sC 5 c k = true → sZ c k = false := by
    intro c k h
    simp only [sC, Bool.and_eq_true, decide_eq_true_eq] at h
    simp only [sZ, Bool.or_eq_false_iff, Bool.and_eq_false_iff, decide_eq_false_iff_not]
    omega
  have hrC : ∀ c k, sC 5 c k = true → sR 29 c k = false := by
    intro c k h
    simp only [sC, Bool.and_eq_true, decide_eq_true_eq] at h
    simp only [sR, decide_eq_false_iff_not]
    omega
  have w2 : CW τ2 5 n P L := a2.fr (fun c k h => b3.1 c k (hkC c k h))
  obtain ⟨τ3, c1, c2, c3, c4, c5⟩ := e5_find (n := n) w2.1.1 hn
  have w3 : CW τ3 5 n P L := w2.fr (fun c k h => c5.1 c k (hzC c k h))
  obtain ⟨τ4, d1, d2, d3⟩ := e1_takeAllAway (σ := τ3)
  have w4 : CW τ4 5 n P L := w3.fr (fun c k h => d3.1 c k (hrC c k h))
  have n2 : τ2.1 3 1 = nI n := (b3.1 3 1 rfl).trans ((a3.1 3 1 rfl).trans hP.1)
  refine ⟨τ4, ?_, w4, ⟨fun h => ?_, fun a l h => ?_⟩, ⟨?_, ?_, fun c hc hz => ?_⟩, d2, ?_⟩
  · simp (disch := omega) only [lit_nI, nI_leS, nI_ltS, nI_eqS, nI_clS, nI_add, mulI, tI_leS, tI_ltS, tI_eqS, tI_m1, nI_m1, tI_eqn, tI_eqn2, tI_ltn, tI_nle, tI_len, tI_nlt, gi_nI, gi_lit, gz_nI, bnd_some, jn_def, vb_def, if_true, if_false, b2i_0, b2i_1, b2i_t, b2i_f, gb_b2i, gb_n0, gb_n1, bitN, bit0N, sh1N, orI, andI, e7_within, ite_self, n10, n01, Bool.true_eq_false, Bool.false_eq_true, f_X6_derive, hs, a1, b1, n2, c1, d1]
  · rw [d3.1 23 1 rfl, c5.1 23 1 rfl]; exact b2.1 h
  · refine ⟨?_, fun k hk => ?_⟩
    · rw [d3.1 23 1 rfl, c5.1 23 1 rfl]; exact (b2.2 a l h).1
    · rw [d3.1 24 k rfl, c5.1 24 k rfl]; exact (b2.2 a l h).2 k hk
  · rw [d3.1 25 3 rfl]; exact c2
  · rw [d3.1 25 2 rfl]; exact c3
  · rw [d3.1 27 _ rfl]; exact c4 c hc hz
  · exact (a3.mono (fun c k h => (sDC_1 c k h).1)).tr ((b3.mono (fun c k h => (sDC_1 c k h).2.1)).tr ((c5.mono (fun c k h => (sDC_1 c k h).2.2.1)).tr (d3.mono (fun c k h => (sDC_1 c k h).2.2.2))))
/-- what laying anew may change in the reference -/
def sDM (c k : Nat) : Bool := sA c k || (sG c k || sR 5 c k)
theorem sDM_1 : ∀ c k, sDM c k = false → sA c k = false ∧ sG c k = false ∧ sR 5 c k = false := by
  intro c k h
  simp only [sDM, Bool.or_eq_false_iff] at h
  exact ⟨h.1, h.2.1, h.2.2⟩
theorem e7_away : ∃ σ', (∀ s, s < 14 → σ'.1 5 s = -nI 1) ∧ Fr (sR 5) σ σ' ∧ (∀ k, f_X7_layNew_6 k FU (nI 0) σ = k σ') ∧ ∀ k, f_X7_clearNow_7 k FU (nI 0) σ = k σ' := by
  obtain ⟨⟨y, τ⟩, ⟨i1, i2, i3⟩, i4⟩ := lpK (fun (kk : (xSt → Option (Unit × xSt)) × (xSt → Option (Int32 × xSt))) q (x : Int32 × xSt) => (f_X7_layNew_6 kk.1 q x.1 x.2, f_X7_clearNow_7 kk.2 q x.1 x.2)) (fun i y => y.1 = nI i ∧ (∀ s, s < i → y.2.1 5 s = -nI 1) ∧ Fr (sR 5) σ y.2) 14 (fun kk y => (kk.1 y.2, kk.2 y.2)) (by omega) (fun q i y hi hI => by
    obtain ⟨y1, τ⟩ := y
    obtain ⟨i1, i2, i3⟩ := hI
    dsimp only at i1 i2 i3 ⊢
    subst i1
    have c0 : ¬ 14 ≤ i := by omega
    refine ⟨(nI (i + 1), up2 τ 5 i (-nI 1)), ⟨rfl, fun s hs => ?_, i3.tr (Fr.up rfl)⟩, fun kk => ?_⟩
    · show (up2 τ 5 i _).1 5 s = _
      by_cases e : s = i
      · subst e; exact up2_same _ _ _ _
      · rw [up2_place _ _ _ _ e]; exact i2 s (by omega)
    · simp (disch := omega) only [lit_nI, nI_leS, nI_ltS, nI_eqS, nI_clS, nI_add, mulI, tI_leS, tI_ltS, tI_eqS, tI_m1, nI_m1, tI_eqn, tI_eqn2, tI_ltn, tI_nle, tI_len, tI_nlt, gi_nI, gi_lit, gz_nI, bnd_some, jn_def, vb_def, if_true, if_false, b2i_0, b2i_1, b2i_t, b2i_f, gb_b2i, gb_n0, gb_n1, bitN, bit0N, sh1N, orI, andI, e7_within, ite_self, n10, n01, Bool.true_eq_false, Bool.false_eq_true, f_X7_layNew_6, f_X7_clearNow_7, c0]) (fun q y hI => by
    obtain ⟨y1, τ⟩ := y
    obtain ⟨i1, i2, i3⟩ := hI
    dsimp only at i1 i2 i3 ⊢
    subst i1
    intro kk
    simp (disch := omega) only [lit_nI, nI_leS, nI_ltS, nI_eqS, nI_clS, nI_add, mulI, tI_leS, tI_ltS, tI_eqS, tI_m1, nI_m1, tI_eqn, tI_eqn2, tI_ltn, tI_nle, tI_len, tI_nlt, gi_nI, gi_lit, gz_nI, bnd_some, jn_def, vb_def, if_true, if_false, b2i_0, b2i_1, b2i_t, b2i_f, gb_b2i, gb_n0, gb_n1, bitN, bit0N, sh1N, orI, andI, e7_within, ite_self, n10, n01, Bool.true_eq_false, Bool.false_eq_true, f_X7_layNew_6, f_X7_clearNow_7, Nat.le_refl]) (nI 0, σ) ⟨rfl, fun s hs => absurd hs (Nat.not_lt_zero s), Fr.rf⟩
  dsimp only at i1 i2 i3 i4
  exact ⟨τ, i2, i3, fun k => congrArg Prod.fst (i4 (k, fun _ => none)), fun k => congrArg Prod.snd (i4 (fun _ => none, k))⟩
theorem HM.fG {σ' : xSt} {L : List (Nat × Nat × Nat)} (h : HM σ L) (hf : Fr sG σ σ') : HM σ' L :=
  ⟨(hf.1 0 4 rfl).trans h.1, fun s hs => ⟨(hf.1 2 s rfl).trans (h.2 s hs).1, (hf.1 3 s rfl).trans (h.2 s hs).2.1, (hf.1 4 s rfl).trans (h.2 s hs).2.2⟩⟩
theorem e7_layNew (hP : MP σ n P) (hC : C < 64) (hs : σ.1 0 2 = nI C) : ∃ σ', f_X7_layNew σ = some ((), σ') ∧ HM σ' (sgs P n C 6) ∧ MB σ' (sgs P n C 6).length (bel P n (sgs P n C 6)) ∧ MF σ' (sgs P n C 6).length (far (bel P n (sgs P n C 6)) (sgs P n C 6).length) ∧ MRg σ' (bel P n (sgs P n C 6)) (sgs P n C 6).length ∧ (∀ s, s < 14 → σ'.1 5 s = -nI 1) ∧ Fr sDM σ σ' := by
  have hn := hP.2.1
  have hp6 := fun k hk => (hP.2.2 k hk).2
  have hl := sgs_len (C := C) hn hp6
  obtain ⟨τ1, a1, a2, a3, a4, a5⟩ := e7_laySegments hP hC
  generalize sgs P n C 6 = L at *
  have hBb : ∀ s, s < L.length → ∀ t, (bel P n L s).testBit t = true → t < L.length := fun s _ t => bel_lt s t
  have lr := e7_layRing (fun s _ => bel_self s) hBb a2.1 hl a3 a4
  have ring : ∃ τ2, f_X7_layRing τ1 = some ((), τ2) ∧ MRg τ2 (bel P n L) L.length ∧ Fr sG τ1 τ2 := by
    by_cases hc : cyc (bel P n L) L.length
    · obtain ⟨a, l, hr⟩ := rng_ex hBb hc
      obtain ⟨τ2, b1, b2, b3, b4⟩ := lr.2 a l hr
      refine ⟨τ2, b1, ⟨fun h => absurd hc h, fun a' l' hr' => ?_⟩, b4⟩
      obtain ⟨rfl, rfl⟩ := rng_uniq hr hr'
      exact ⟨b2, b3⟩
    · obtain ⟨τ2, b1, b2, b3⟩ := lr.1 hc
      exact ⟨τ2, b1, ⟨fun _ => b2, fun a l hr' => absurd ⟨a, l, hr'.2.1, rng_wk hBb hr'⟩ hc⟩, b3⟩
  obtain ⟨τ2, b1, b2, b3⟩ := ring
  obtain ⟨τ3, c1, c2, c3, _⟩ := e7_away (σ := τ2)
  have m2 := a2.fG b3
  refine ⟨τ3, ?_, ⟨(c2.1 0 4 rfl).trans m2.1, fun s hs => ⟨(c2.1 2 s rfl).trans (m2.2 s hs).1, (c2.1 3 s rfl).trans (m2.2 s hs).2.1, (c2.1 4 s rfl).trans (m2.2 s hs).2.2⟩⟩, fun s hs => ⟨(c2.1 6 s rfl).trans ((b3.1 6 s rfl).trans (a3 s hs).1), (a3 s hs).2⟩, fun s hs => ⟨(c2.1 7 s rfl).trans ((b3.1 7 s rfl).trans (a4 s hs).1), (a4 s hs).2⟩, ⟨fun h => (c2.1 0 11 rfl).trans (b2.1 h), fun a l h => ⟨(c2.1 0 11 rfl).trans (b2.2 a l h).1, fun k hk => (c2.1 8 k rfl).trans ((b2.2 a l h).2 k hk)⟩⟩, c1, ?_⟩
  · simp (disch := omega) only [lit_nI, nI_leS, nI_ltS, nI_eqS, nI_clS, nI_add, mulI, tI_leS, tI_ltS, tI_eqS, tI_m1, nI_m1, tI_eqn, tI_eqn2, tI_ltn, tI_nle, tI_len, tI_nlt, gi_nI, gi_lit, gz_nI, bnd_some, jn_def, vb_def, if_true, if_false, b2i_0, b2i_1, b2i_t, b2i_f, gb_b2i, gb_n0, gb_n1, bitN, bit0N, sh1N, orI, andI, e7_within, ite_self, n10, n01, Bool.true_eq_false, Bool.false_eq_true, f_X7_layNew, f_X7_layNow, hs, a1, b1, c3]
  · exact (a5.mono (fun c k h => (sDM_1 c k h).1)).tr ((b3.mono (fun c k h => (sDM_1 c k h).2.1)).tr (c2.mono (fun c k h => (sDM_1 c k h).2.2)))
end
