/-! ===== the reference finds the cycle ===== -/
section
variable {σ : xSt} {N : Nat} {B : Nat → Nat}
def bkP (B : Nat → Nat) (a l k x t : Nat) : Bool := decide (a ≤ t) && (!decide (B t &&& x = 0) && (decide (a < t) || decide (k = l)))
def bkM (B : Nat → Nat) (N a l : Nat) : Nat → Nat
  | 0 => 2 ^ a
  | k + 1 => cmk (bkP B a l (k + 1) (bkM B N a l k)) N
theorem and_ne {x y : Nat} : ¬ (x &&& y = 0) ↔ ∃ t, x.testBit t = true ∧ y.testBit t = true := by
  constructor
  · intro h
    refine Classical.byContradiction fun hn => h ?_
    apply Nat.eq_of_testBit_eq
    intro i
    rw [Nat.zero_testBit, Nat.testBit_and]
    rcases Bool.eq_false_or_eq_true (x.testBit i) with b1 | b1
    · rcases Bool.eq_false_or_eq_true (y.testBit i) with b2 | b2
      · exact absurd ⟨i, b1, b2⟩ hn
      · rw [b2, Bool.and_false]
    · rw [b1, Bool.false_and]
  · rintro ⟨t, h1, h2⟩ h
    have : (x &&& y).testBit t = true := by rw [Nat.testBit_and, h1, h2]; rfl
    rw [h, Nat.zero_testBit] at this
    exact absurd this (by decide)
theorem bkM_succ {a l k t : Nat} : (bkM B N a l (k + 1)).testBit t = true ↔ t < N ∧ a ≤ t ∧ (∃ u, (B t).testBit u = true ∧ (bkM B N a l k).testBit u = true) ∧ (a < t ∨ k + 1 = l) := by
  show (cmk (bkP B a l (k + 1) (bkM B N a l k)) N).testBit t = true ↔ _
  rw [cmk_bit, bkP]
  simp only [Bool.and_eq_true, Bool.or_eq_true, decide_eq_true_eq, Bool.not_eq_true', decide_eq_false_iff_not, and_ne]
theorem bkM_wk (hBb : ∀ s, s < N → ∀ t, (B s).testBit t = true → t < N) {a l : Nat} (ha : a < N) : ∀ {k t : Nat}, (bkM B N a l k).testBit t = true → wk B N k t a
  | 0, t, h => by
    have h' : (2 ^ a).testBit t = true := h
    rw [tb_pow, decide_eq_true_eq] at h'
    exact ⟨h'.symm, h' ▸ ha⟩
  | k + 1, t, h => by
    obtain ⟨h1, h2, ⟨u, h3, h4⟩, h5⟩ := bkM_succ.mp h
    exact ⟨u, ⟨h3, h1, hBb t h1 u h3⟩, bkM_wk hBb ha h4⟩
theorem bkM_all (hBb : ∀ s, s < N → ∀ t, (B s).testBit t = true → t < N) {a l : Nat} (h : rng B N a l) : ∀ {k t : Nat}, 1 ≤ k → k < l → wk B N k t a → wk B N (l - k) a t → (bkM B N a l k).testBit t = true
  | 0, t, h1, _, _, _ => by omega
  | k + 1, t, h1, h2, h3, h4 => by
    have hs := rng_ge hBb h (s := t) (by have := wk_app h3 h4; rwa [show k + 1 + (l - (k + 1)) = l by omega] at this)
    have hne : t ≠ a := fun e => by
      subst e
      exact rng_no hBb h h1 h2 h3
    obtain ⟨u, u1, u2⟩ := h3
    refine bkM_succ.mpr ⟨u1.2.1, hs, ⟨u, u1.1, ?_⟩, Or.inl (by omega)⟩
    rcases Nat.eq_zero_or_pos k with hk | hk
    · subst hk
      obtain ⟨e, _⟩ := u2
      subst e
      show (2 ^ u).testBit u = true
      rw [tb_pow]; simp
    · refine bkM_all hBb h hk (by omega) u2 ?_
      have := wk_app h4 (wk_1 u1)
      rwa [show l - (k + 1) + 1 = l - k by omega] at this
theorem rng_2 (hself : ∀ s, s < N → (B s).testBit s = false) (hBb : ∀ s, s < N → ∀ t, (B s).testBit t = true → t < N) {a l : Nat} (h : rng B N a l) : 2 ≤ l := by
  have h1 := h.2.1
  rcases Nat.lt_or_ge l 2 with h2 | h2
  · have hl : l = 1 := by omega
    have hw := rng_wk hBb h
    rw [hl] at hw
    obtain ⟨u, u1, u2, _⟩ := hw
    subst u2
    have := u1.1
    rw [hself u h.1] at this
    exact absurd this (by decide)
  · exact h2
theorem bkM_top (hself : ∀ s, s < N → (B s).testBit s = false) (hBb : ∀ s, s < N → ∀ t, (B s).testBit t = true → t < N) {a l : Nat} (h : rng B N a l) : (bkM B N a l l).testBit a = true := by
  have h2 := rng_2 hself hBb h
  have hw := rng_wk hBb h
  obtain ⟨k, rfl⟩ : ∃ k, l = k + 1 := ⟨l - 1, by omega⟩
  obtain ⟨u, u1, u2⟩ := hw
  refine bkM_succ.mpr ⟨h.1, Nat.le_refl a, ⟨u, u1.1, ?_⟩, Or.inr rfl⟩
  refine bkM_all hBb h (by omega) (by omega) u2 ?_
  rw [show k + 1 - k = 1 by omega]
  exact wk_1 u1
def s10 (c _ : Nat) : Bool := decide (c = 10)
theorem MB.f10 {σ' : xSt} (h : MB σ N B) (hf : Fr s10 σ σ') : MB σ' N B := fun s hs => ⟨(hf.1 6 s rfl).trans (h s hs).1, (h s hs).2⟩
theorem bkM_lt {a l : Nat} (ha : a < N) (hN : N ≤ 14) : ∀ k, bkM B N a l k < 16384
  | 0 => (Nat.pow_lt_pow_right (by decide) (show a < 14 by omega) : 2 ^ a < 2 ^ 14)
  | k + 1 => cmk14 hN
theorem e7_back1 (h0 : σ.1 0 4 = nI N) (hN : N ≤ 14) (hB : MB σ N B) {a l k x : Nat} (ha : a < N) (hk : k + 1 < 15) (hl : l < 15) (hx : x < 16384) (hbk : σ.1 10 k = nI x) (hb1 : σ.1 10 (k + 1) = nI 0) : ∃ σ', σ'.1 10 (k + 1) = nI (cmk (bkP B a l (k + 1) x) N) ∧ (∀ j, j ≠ k + 1 → σ'.1 10 j = σ.1 10 j) ∧ Fr s10 σ σ' ∧ ∀ kk, f_X7_layBack_26 (nI a) (nI l) (nI (k + 1)) kk FU (nI a) σ = kk σ' := by
  have hz : ∀ i, i ≤ a → cmk (bkP B a l (k + 1) x) i = 0 := by
    intro i hi
    apply Nat.eq_of_testBit_eq
    intro t
    rw [cmk_bit, Nat.zero_testBit, bkP]
    by_cases q : t < i
    · have : ¬ a ≤ t := by omega
      simp [this]
    · simp [q]
  obtain ⟨⟨y, τ⟩, ⟨i1, i2, i3, i4⟩, i5⟩ := lpK (fun kk m (x : Int32 × xSt) => f_X7_layBack_26 (nI a) (nI l) (nI (k + 1)) kk m x.1 x.2) (fun i y => y.1 = nI (a + i) ∧ y.2.1 10 (k + 1) = nI (cmk (bkP B a l (k + 1) x) (a + i)) ∧ (∀ j, j ≠ k + 1 → y.2.1 10 j = σ.1 10 j) ∧ Fr s10 σ y.2) (N - a) (fun kk y => kk y.2) (by omega) (fun m i y hi hI => by
    obtain ⟨y1, τ⟩ := y
    obtain ⟨i1, i2, i3, i4⟩ := hI
    dsimp only at i1 i2 i3 i4 ⊢
    subst i1
    have c0 : ¬ N ≤ a + i := by omega
    have h0' : τ.1 0 4 = nI N := (i4.1 0 4 rfl).trans h0
    obtain ⟨b1, b2⟩ := (hB.f10 i4) (a + i) (by omega)
    have r1 : τ.1 10 k = nI x := (i3 k (by omega)).trans hbk
    have va : B (a + i) &&& x < 16384 := Nat.lt_of_le_of_lt Nat.and_le_left b2
    have e : cmk (bkP B a l (k + 1) x) (a + i + 1) = cmk (bkP B a l (k + 1) x) (a + i) ||| (if bkP B a l (k + 1) x (a + i) then 2 ^ (a + i) else 0) := rfl
    refine ⟨(nI (a + i + 1), up2 τ 10 (k + 1) (nI (cmk (bkP B a l (k + 1) x) (a + i + 1)))), ⟨rfl, up2_same _ _ _ _, fun j hj => ?_, i4.tr (Fr.up rfl)⟩, fun kk => ?_⟩
    · show (up2 τ 10 (k + 1) _).1 10 j = _
      rw [up2_place _ _ _ _ hj]; exact i3 j hj
    · rw [e, bkP]
      have em : nI (k + 1) - nI 1 = nI k := by rw [subI (by omega)]; rfl
      simp (disch := omega) only [lit_nI, nI_leS, nI_ltS, nI_eqS, nI_clS, nI_add, mulI, tI_leS, tI_ltS, tI_eqS, tI_m1, nI_m1, tI_eqn, tI_eqn2, tI_ltn, tI_nle, tI_len, tI_nlt, gi_nI, gi_lit, gz_nI, bnd_some, jn_def, vb_def, if_true, if_false, b2i_0, b2i_1, b2i_t, b2i_f, gb_b2i, gb_n0, gb_n1, bitN, bit0N, sh1N, orI, andI, e7_within, ite_self, n10, n01, Bool.true_eq_false, Bool.false_eq_true, f_X7_layBack_26, h0', c0, em, b1, r1, i2]
      have ea : a ≤ a + i := by omega
      rcases Classical.propComplete (B (a + i) &&& x = 0) with q1 | q1 <;> rcases Classical.propComplete (a < a + i) with q2 | q2 <;> rcases Classical.propComplete (k + 1 = l) with q3 | q3 <;> simp [ea, q1, q2, q3, b2i_t, b2i_f, gb_n0, gb_n1, n10, n01, nI_eqS]) (fun m y hI => by
    obtain ⟨y1, τ⟩ := y
    obtain ⟨i1, i2, i3, i4⟩ := hI
    dsimp only at i1 i2 i3 i4 ⊢
    rw [show a + (N - a) = N by omega] at i1
    subst i1
    intro kk
    have h0' : τ.1 0 4 = nI N := (i4.1 0 4 rfl).trans h0
    simp (disch := omega) only [lit_nI, nI_leS, nI_ltS, nI_eqS, nI_clS, nI_add, mulI, tI_leS, tI_ltS, tI_eqS, tI_m1, nI_m1, tI_eqn, tI_eqn2, tI_ltn, tI_nle, tI_len, tI_nlt, gi_nI, gi_lit, gz_nI, bnd_some, jn_def, vb_def, if_true, if_false, b2i_0, b2i_1, b2i_t, b2i_f, gb_b2i, gb_n0, gb_n1, bitN, bit0N, sh1N, orI, andI, e7_within, ite_self, n10, n01, Bool.true_eq_false, Bool.false_eq_true, f_X7_layBack_26, h0', Nat.le_refl]) (nI a, σ) ⟨rfl, by rw [hz (a + 0) (Nat.le_refl a)]; exact hb1, fun _ _ => rfl, Fr.rf⟩
  dsimp only at i1 i2 i3 i4 i5
  rw [show a + (N - a) = N by omega] at i2
  exact ⟨τ, i2, i3, i4, i5⟩
theorem e7_layBack (h0 : σ.1 0 4 = nI N) (hN : N ≤ 14) (hB : MB σ N B) {a l : Nat} (ha : a < N) (hl : l ≤ 14) : ∃ σ', f_X7_layBack (nI a) (nI l) σ = some (b2i ((bkM B N a l l).testBit a), σ') ∧ (∀ k, k ≤ l → σ'.1 10 k = nI (bkM B N a l k)) ∧ Fr s10 σ σ' := by
  have f0 : Fr s10 σ (up2 σ 10 0 (nI (2 ^ a))) := Fr.up rfl
  obtain ⟨⟨y, τ⟩, ⟨i1, i2, i3⟩, i4⟩ := lpK (fun kk m (x : Int32 × xSt) => f_X7_layBack_11 (nI a) (nI l) kk m x.1 x.2) (fun i y => y.1 = nI (i + 1) ∧ (∀ k, k ≤ i → y.2.1 10 k = nI (bkM B N a l k)) ∧ Fr s10 σ y.2) l (fun kk y => kk y.2) (by omega) (fun m i y hi hI => by
    obtain ⟨y1, τ⟩ := y
    obtain ⟨i1, i2, i3⟩ := hI
    dsimp only at i1 i2 i3 ⊢
    subst i1
    have c0 : ¬ l < i + 1 := by omega
    have f1 : Fr s10 τ (up2 τ 10 (i + 1) (nI 0)) := Fr.up rfl
    have f2 := i3.tr f1
    obtain ⟨τ', g1, g2, g3, g4⟩ := e7_back1 (l := l) ((f2.1 0 4 rfl).trans h0) hN (hB.f10 f2) ha (show i + 1 < 15 by omega) (show l < 15 by omega) (bkM_lt ha hN i) (by rw [up2_place _ _ _ _ (by omega)]; exact i2 i (Nat.le_refl i)) (up2_same _ _ _ _)
    refine ⟨(nI (i + 1 + 1), τ'), ⟨rfl, fun k hk => ?_, f2.tr g3⟩, fun kk => ?_⟩
    · by_cases e : k = i + 1
      · subst e; exact g1
      · rw [g2 k e, up2_place _ _ _ _ e]; exact i2 k (by omega)
    · simp (disch := omega) only [lit_nI, nI_leS, nI_ltS, nI_eqS, nI_clS, nI_add, mulI, tI_leS, tI_ltS, tI_eqS, tI_m1, nI_m1, tI_eqn, tI_eqn2, tI_ltn, tI_nle, tI_len, tI_nlt, gi_nI, gi_lit, gz_nI, bnd_some, jn_def, vb_def, if_true, if_false, b2i_0, b2i_1, b2i_t, b2i_f, gb_b2i, gb_n0, gb_n1, bitN, bit0N, sh1N, orI, andI, e7_within, ite_self, n10, n01, Bool.true_eq_false, Bool.false_eq_true, f_X7_layBack_11, c0, g4]) (fun m y hI => by
    obtain ⟨y1, τ⟩ := y
    obtain ⟨i1, i2, i3⟩ := hI
    dsimp only at i1 i2 i3 ⊢
    subst i1
    intro kk
    have c0 : l < l + 1 := by omega
    simp (disch := omega) only [lit_nI, nI_leS, nI_ltS, nI_eqS, nI_clS, nI_add, mulI, tI_leS, tI_ltS, tI_eqS, tI_m1, nI_m1, tI_eqn, tI_eqn2, tI_ltn, tI_nle, tI_len, tI_nlt, gi_nI, gi_lit, gz_nI, bnd_some, jn_def, vb_def, if_true, if_false, b2i_0, b2i_1, b2i_t, b2i_f, gb_b2i, gb_n0, gb_n1, bitN, bit0N, sh1N, orI, andI, e7_within, ite_self, n10, n01, Bool.true_eq_false, Bool.false_eq_true, f_X7_layBack_11, c0]) (nI 1, up2 σ 10 0 (nI (2 ^ a))) ⟨rfl, fun k hk => by
      have : k = 0 := by omega
      subst this; exact up2_same _ _ _ _, f0⟩
  dsimp only at i1 i2 i3 i4
  have hr := i2 l (Nat.le_refl l)
  have hlt := bkM_lt (B := B) (l := l) ha hN l
  refine ⟨τ, ?_, i2, i3⟩
  simp (disch := omega) only [lit_nI, nI_leS, nI_ltS, nI_eqS, nI_clS, nI_add, mulI, tI_leS, tI_ltS, tI_eqS, tI_m1, nI_m1, tI_eqn, tI_eqn2, tI_ltn, tI_nle, tI_len, tI_nlt, gi_nI, gi_lit, gz_nI, bnd_some, jn_def, vb_def, if_true, if_false, b2i_0, b2i_1, b2i_t, b2i_f, gb_b2i, gb_n0, gb_n1, bitN, bit0N, sh1N, orI, andI, e7_within, ite_self, n10, n01, Bool.true_eq_false, Bool.false_eq_true, f_X7_layBack, i4, hr, e7_isBit]
end
