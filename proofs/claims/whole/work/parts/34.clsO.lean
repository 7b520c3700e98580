section
variable {σ : xSt} {o n N : Nat} {P ne fi la : Nat → Nat}
theorem e3_con9 (h : HD σ o n N P ne fi la) (hn : n ≤ 8) {E : Nat → Nat → Bool} (hE : MX σ o N E) {c : Nat} (hc : c < n) (hp0 : P (2 * c) ≤ 6) (hp : P (2 * c + 1) ≤ 6) : ∃ σ', MX σ' o N (fun x y => E x y || (jt P ne fi la c x && jb P ne fi la c y)) ∧ Fr (sX o) σ σ' ∧ ∀ k, f_X3_constrain_9 o (nI c) (tI (P (2 * c))) (tI (P (2 * c + 1))) k FU (nI 0) σ = k σ' := by
  have hN := h.1.2.1
  obtain ⟨⟨a1, τ⟩, ⟨i1, i2, i3⟩, i4⟩ := lpK (fun k m (a : Int32 × xSt) => f_X3_constrain_9 o (nI c) (tI (P (2 * c))) (tI (P (2 * c + 1))) k m a.1 a.2) (fun i a => a.1 = nI i ∧ MX a.2 o N (fun x y => E x y || (decide (x < i) && (jt P ne fi la c x && jb P ne fi la c y))) ∧ Fr (sX o) σ a.2) N (fun k a => k a.2) (by omega) (fun m i a hi hI => by
    obtain ⟨a1, τ⟩ := a
    obtain ⟨i1, i2, i3⟩ := hI
    dsimp only at i1 i2 i3 ⊢
    subst i1
    have c0 : ¬ N ≤ i := by omega
    have h' := h.fr i3
    have h0 := h'.1.1
    have hj := e3_isJoinedT h' hn hi hp0 hc
    obtain ⟨τ', g1, g2, g3⟩ := e3_con31 h' hn i2 hc hp hi (jt P ne fi la c i)
    rw [jt] at g3
    refine ⟨(nI (i + 1), τ'), ⟨rfl, g1.ext (fun x y hx hy => ?_), i3.tr g2⟩, fun k => ?_⟩
    · by_cases ex : x = i
      · subst ex; simp
      · have : decide (x < i + 1) = decide (x < i) := by rw [Bool.eq_iff_iff, decide_eq_true_eq, decide_eq_true_eq]; omega
        simp [ex, this]
    · simp (disch := omega) only [lit_nI, nI_leS, nI_ltS, nI_eqS, nI_clS, nI_add, mulI, tI_leS, tI_ltS, tI_eqS, tI_m1, nI_m1, tI_eqn, tI_eqn2, tI_ltn, tI_nle, tI_len, tI_nlt, gi_nI, gi_lit, gz_nI, bnd_some, jn_def, vb_def, if_true, if_false, b2i_0, b2i_1, b2i_t, b2i_f, gb_b2i, gb_n0, gb_n1, bitN, bit0N, sh1N, orI, andI, e7_within, ite_self, n10, n01, Bool.true_eq_false, Bool.false_eq_true, f_X3_constrain_9, h0, c0, hj, g3]) (fun m a hI => by
    obtain ⟨a1, τ⟩ := a
    obtain ⟨i1, i2, i3⟩ := hI
    dsimp only at i1 i2 i3 ⊢
    subst i1
    intro k
    have h0 := (h.fr i3).1.1
    simp (disch := omega) only [lit_nI, nI_leS, nI_ltS, nI_eqS, nI_clS, nI_add, mulI, tI_leS, tI_ltS, tI_eqS, tI_m1, nI_m1, tI_eqn, tI_eqn2, tI_ltn, tI_nle, tI_len, tI_nlt, gi_nI, gi_lit, gz_nI, bnd_some, jn_def, vb_def, if_true, if_false, b2i_0, b2i_1, b2i_t, b2i_f, gb_b2i, gb_n0, gb_n1, bitN, bit0N, sh1N, orI, andI, e7_within, ite_self, n10, n01, Bool.true_eq_false, Bool.false_eq_true, f_X3_constrain_9, h0, Nat.le_refl]) (nI 0, σ) ⟨rfl, hE.ext (fun x y _ _ => by simp), Fr.rf⟩
  refine ⟨τ, i2.ext (fun x y hx hy => ?_), i3, i4⟩
  simp [hx]
def jnt (P ne fi la : Nat → Nat) (s t c : Nat) : Bool := !decide (P (2 * c) = P (2 * c + 1)) && (jt P ne fi la c s && jb P ne fi la c t)
theorem e3_constrain (h : HD σ o n N P ne fi la) (hn : n ≤ 8) {E : Nat → Nat → Bool} (hE : MX σ o N E) {c : Nat} (hc : c < n) (hp0 : P (2 * c) ≤ 6) (hp : P (2 * c + 1) ≤ 6) : ∃ σ', MX σ' o N (fun x y => E x y || jnt P ne fi la x y c) ∧ Fr (sX o) σ σ' ∧ f_X3_constrain o (nI c) (tI (P (2 * c))) (tI (P (2 * c + 1))) σ = some ((), σ') := by
  by_cases q : P (2 * c) = P (2 * c + 1)
  · refine ⟨σ, hE.ext (fun x y _ _ => by simp [jnt, q]), Fr.rf, ?_⟩
    simp (disch := omega) only [lit_nI, nI_leS, nI_ltS, nI_eqS, nI_clS, nI_add, mulI, tI_leS, tI_ltS, tI_eqS, tI_m1, nI_m1, tI_eqn, tI_eqn2, tI_ltn, tI_nle, tI_len, tI_nlt, gi_nI, gi_lit, gz_nI, bnd_some, jn_def, vb_def, if_true, if_false, b2i_0, b2i_1, b2i_t, b2i_f, gb_b2i, gb_n0, gb_n1, bitN, bit0N, sh1N, orI, andI, e7_within, ite_self, n10, n01, Bool.true_eq_false, Bool.false_eq_true, f_X3_constrain, q]
  · obtain ⟨τ', g1, g2, g3⟩ := e3_con9 h hn hE hc hp0 hp
    refine ⟨τ', g1.ext (fun x y _ _ => by simp [jnt, q]), g2, ?_⟩
    simp (disch := omega) only [lit_nI, nI_leS, nI_ltS, nI_eqS, nI_clS, nI_add, mulI, tI_leS, tI_ltS, tI_eqS, tI_m1, nI_m1, tI_eqn, tI_eqn2, tI_ltn, tI_nle, tI_len, tI_nlt, gi_nI, gi_lit, gz_nI, bnd_some, jn_def, vb_def, if_true, if_false, b2i_0, b2i_1, b2i_t, b2i_f, gb_b2i, gb_n0, gb_n1, bitN, bit0N, sh1N, orI, andI, e7_within, ite_self, n10, n01, Bool.true_eq_false, Bool.false_eq_true, f_X3_constrain, q, g3]
theorem sX_C : ∀ c k, sC o c k = false → sX o c k = false := by
  intro c k h
  simp only [sC, Bool.and_eq_false_iff, decide_eq_false_iff_not] at h
  simp only [sX, Bool.or_eq_false_iff, decide_eq_false_iff_not]
  omega
theorem e3_cons (ho : 4 < o) (hP : CP σ n P) (h : HD σ o n N P ne fi la) (hE : MX σ o N (fun _ _ => false)) : ∃ σ', MX σ' o N (abv P ne fi la n) ∧ Fr (sX o) σ σ' ∧ ∀ k, f_X3_build_72 o k FU (nI 0) σ = k σ' := by
  have hn := hP.2.1
  obtain ⟨⟨a1, τ⟩, ⟨i1, i2, i3⟩, i4⟩ := lpK (fun k m (a : Int32 × xSt) => f_X3_build_72 o k m a.1 a.2) (fun i a => a.1 = nI i ∧ MX a.2 o N (fun x y => exB (jnt P ne fi la x y) i) ∧ Fr (sX o) σ a.2) n (fun k a => k a.2) (by omega) (fun m i a hi hI => by
    obtain ⟨a1, τ⟩ := a
    obtain ⟨i1, i2, i3⟩ := hI
    dsimp only at i1 i2 i3 ⊢
    subst i1
    have c0 : ¬ n ≤ i := by omega
    have hP' := hP.fr ho (i3.mono sX_C)
    have h0 := hP'.1
    have g0 := e0_netOf hP' hi (show 0 < 2 by omega)
    have g1 := e0_netOf hP' hi (show 1 < 2 by omega)
    rw [Nat.add_zero] at g0
    obtain ⟨τ', u1, u2, u3⟩ := e3_constrain (h.fr i3) hn i2 hi (hP.2.2 (2 * i) (by omega)).2 (hP.2.2 (2 * i + 1) (by omega)).2
    refine ⟨(nI (i + 1), τ'), ⟨rfl, u1, i3.tr u2⟩, fun k => ?_⟩
    simp (disch := omega) only [lit_nI, nI_leS, nI_ltS, nI_eqS, nI_clS, nI_add, mulI, tI_leS, tI_ltS, tI_eqS, tI_m1, nI_m1, tI_eqn, tI_eqn2, tI_ltn, tI_nle, tI_len, tI_nlt, gi_nI, gi_lit, gz_nI, bnd_some, jn_def, vb_def, if_true, if_false, b2i_0, b2i_1, b2i_t, b2i_f, gb_b2i, gb_n0, gb_n1, bitN, bit0N, sh1N, orI, andI, e7_within, ite_self, n10, n01, Bool.true_eq_false, Bool.false_eq_true, f_X3_build_72, h0, c0, g0, g1, u3]) (fun m a hI => by
    obtain ⟨a1, τ⟩ := a
    obtain ⟨i1, i2, i3⟩ := hI
    dsimp only at i1 i2 i3 ⊢
    subst i1
    intro k
    have h0 := (hP.fr ho (i3.mono sX_C)).1
    simp (disch := omega) only [lit_nI, nI_leS, nI_ltS, nI_eqS, nI_clS, nI_add, mulI, tI_leS, tI_ltS, tI_eqS, tI_m1, nI_m1, tI_eqn, tI_eqn2, tI_ltn, tI_nle, tI_len, tI_nlt, gi_nI, gi_lit, gz_nI, bnd_some, jn_def, vb_def, if_true, if_false, b2i_0, b2i_1, b2i_t, b2i_f, gb_b2i, gb_n0, gb_n1, bitN, bit0N, sh1N, orI, andI, e7_within, ite_self, n10, n01, Bool.true_eq_false, Bool.false_eq_true, f_X3_build_72, h0, Nat.le_refl]) (nI 0, σ) ⟨rfl, hE, Fr.rf⟩
  refine ⟨τ, i2.ext (fun x y hx hy => ?_), i3, i4⟩
  rw [abv, Bool.eq_iff_iff, Bool.and_eq_true, exB_iff, exB_iff]
  simp only [jnt, jt, jb, Bool.and_eq_true, Bool.not_eq_true', decide_eq_true_eq, decide_eq_false_iff_not]
  constructor
  · rintro ⟨c, h1, h2, ⟨h3, h4⟩, h5, h6⟩
    exact ⟨⟨c, h1, ⟨h3.symm, h5.symm⟩, h4, h6⟩, by omega⟩
  · rintro ⟨⟨c, h1, ⟨h3, h5⟩, h4, h6⟩, h7⟩
    exact ⟨c, h1, by omega, ⟨h3.symm, h4⟩, h5.symm, h6⟩
/-! ranks -/
/-- what is left after r rounds -/
def lft (V : Nat → Nat) (N r : Nat) : Nat := cmk (fun s => pwB V N r s) N
theorem and_0 {V : Nat → Nat} {N r s : Nat} (hV : ∀ t, (V s).testBit t = true → t < N) : (V s &&& lft V N r = 0) ↔ exB (fun p => (V s).testBit p && pwB V N r p) N = false := by
  rw [Bool.eq_false_iff, Ne, exB_iff]
  constructor
  · rintro h ⟨p, h1, h2⟩
    rw [Bool.and_eq_true] at h2
    have : (V s &&& lft V N r).testBit p = true := by
      rw [Nat.testBit_and, h2.1, lft, cmk_bit, h2.2]; simp [h1]
    rw [h, Nat.zero_testBit] at this
    exact absurd this (by decide)
  · intro h
    apply Nat.eq_of_testBit_eq
    intro p
    rw [Nat.zero_testBit, Nat.testBit_and]
    rcases Bool.eq_false_or_eq_true ((V s).testBit p) with b1 | b1
    · rcases Bool.eq_false_or_eq_true ((lft V N r).testBit p) with b2 | b2
      · rw [lft, cmk_bit, Bool.and_eq_true] at b2
        exact absurd ⟨p, hV p b1, by rw [b1, b2.2]; rfl⟩ h
      · rw [b2, Bool.and_false]
    · rw [b1, Bool.false_and]
/-- those that go in round r -/
def fre (V : Nat → Nat) (N r s : Nat) : Bool := pwB V N r s && !pwB V N (r + 1) s
theorem e3_freeOf {V : Nat → Nat} {bf r : Nat} (h0 : σ.1 o 8 = nI N) (hN : N ≤ 14) (hV : ∀ s, s < N → σ.1 bf s = nI (V s) ∧ V s < 16384) (hVb : ∀ s, s < N → ∀ t, (V s).testBit t = true → t < N) : f_X3_freeOf o bf (nI (lft V N r)) σ = some (nI (cmk (fre V N r) N), σ) := by
  have hl : lft V N r < 16384 := cmk14 hN
  rw [f_X3_freeOf]
  refine lpF (fun m (a : Int32 × Int32) => f_X3_freeOf_5 o bf _ _ m a.1 a.2 σ) (fun i => (nI (cmk (fre V N r) i), nI i)) N _ (by omega) (fun m i hi => ?_) (fun m => ?_)
  · have c0 : ¬ N ≤ i := by omega
    obtain ⟨v1, v2⟩ := hV i hi
    have va : V i &&& lft V N r < 16384 := Nat.lt_of_le_of_lt Nat.and_le_left v2
    have hb : (lft V N r).testBit i = pwB V N r i := by rw [lft, cmk_bit]; simp [hi]
    have ha := and_0 (r := r) (hVb i hi)
    have e : cmk (fre V N r) (i + 1) = cmk (fre V N r) i ||| (if fre V N r i then 2 ^ i else 0) := rfl
    have ep : pwB V N (r + 1) i = exB (fun p => (V i).testBit p && pwB V N r p) N := by
      show (decide (i < N) && _) = _
      simp [hi]
    rw [e, fre, ep]
    simp (disch := omega) only [lit_nI, nI_leS, nI_ltS, nI_eqS, nI_clS, nI_add, mulI, tI_leS, tI_ltS, tI_eqS, tI_m1, nI_m1, tI_eqn, tI_eqn2, tI_ltn, tI_nle, tI_len, tI_nlt, gi_nI, gi_lit, gz_nI, bnd_some, jn_def, vb_def, if_true, if_false, b2i_0, b2i_1, b2i_t, b2i_f, gb_b2i, gb_n0, gb_n1, bitN, bit0N, sh1N, orI, andI, e7_within, ite_self, n10, n01, Bool.true_eq_false, Bool.false_eq_true, f_X3_freeOf_5, h0, c0, v1, hb, ha]
    rcases Bool.eq_false_or_eq_true (pwB V N r i) with b1 | b1 <;> rcases Bool.eq_false_or_eq_true (exB (fun p => (V i).testBit p && pwB V N r p) N) with b2 | b2 <;> simp [b1, b2]
  · simp (disch := omega) only [lit_nI, nI_leS, nI_ltS, nI_eqS, nI_clS, nI_add, mulI, tI_leS, tI_ltS, tI_eqS, tI_m1, nI_m1, tI_eqn, tI_eqn2, tI_ltn, tI_nle, tI_len, tI_nlt, gi_nI, gi_lit, gz_nI, bnd_some, jn_def, vb_def, if_true, if_false, b2i_0, b2i_1, b2i_t, b2i_f, gb_b2i, gb_n0, gb_n1, bitN, bit0N, sh1N, orI, andI, e7_within, ite_self, n10, n01, Bool.true_eq_false, Bool.false_eq_true, f_X3_freeOf_5, h0, Nat.le_refl]
def sR (rk : Nat) (c _ : Nat) : Bool := decide (c = rk)
theorem e3_giveRank {rk : Nat} {p : Nat → Bool} {v : Int32} (h0 : σ.1 o 8 = nI N) (hN : N ≤ 14) (hr : rk ≠ o) : ∃ σ', (∀ s, s < N → σ'.1 rk s = if p s then v else σ.1 rk s) ∧ Fr (sR rk) σ σ' ∧ f_X3_giveRank o rk (nI (cmk p N)) v σ = some ((), σ') := by
  have hl : cmk p N < 16384 := cmk14 hN
  obtain ⟨⟨a1, τ⟩, ⟨i1, i2, i3⟩, i4⟩ := lpK (fun k m (a : Int32 × xSt) => f_X3_giveRank_3 o rk (nI (cmk p N)) v k m a.1 a.2) (fun i a => a.1 = nI i ∧ (∀ s, s < N → a.2.1 rk s = if p s ∧ s < i then v else σ.1 rk s) ∧ Fr (sR rk) σ a.2) N (fun k a => k a.2) (by omega) (fun m i a hi hI => by
    obtain ⟨a1, τ⟩ := a
    obtain ⟨i1, i2, i3⟩ := hI
    dsimp only at i1 i2 i3 ⊢
    subst i1
    have c0 : ¬ N ≤ i := by omega
    have h0' : τ.1 o 8 = nI N := (i3.1 o 8 (by simp [sR]; omega)).trans h0
    have hb : (cmk p N).testBit i = p i := by rw [cmk_bit]; simp [hi]
    rcases Bool.eq_false_or_eq_true (p i) with b1 | b1
    · refine ⟨(nI (i + 1), up2 τ rk i v), ⟨rfl, fun s hs => ?_, i3.tr (Fr.up (by simp [sR]))⟩, fun k => ?_⟩
      · by_cases e : s = i
        · subst e
          show (up2 τ rk s v).1 rk s = _
          rw [up2_same, if_pos ⟨b1, Nat.lt_succ_self s⟩]
        · show (up2 τ rk i v).1 rk s = _
          rw [up2_place _ _ _ _ e, i2 s hs]
          have : (p s = true ∧ s < i) = (p s = true ∧ s < i + 1) := propext (and_congr Iff.rfl (by omega))
          simp only [this]
      · simp (disch := omega) only [lit_nI, nI_leS, nI_ltS, nI_eqS, nI_clS, nI_add, mulI, tI_leS, tI_ltS, tI_eqS, tI_m1, nI_m1, tI_eqn, tI_eqn2, tI_ltn, tI_nle, tI_len, tI_nlt, gi_nI, gi_lit, gz_nI, bnd_some, jn_def, vb_def, if_true, if_false, b2i_0, b2i_1, b2i_t, b2i_f, gb_b2i, gb_n0, gb_n1, bitN, bit0N, sh1N, orI, andI, e7_within, ite_self, n10, n01, Bool.true_eq_false, Bool.false_eq_true, f_X3_giveRank_3, h0', c0, hb, b1]
    · refine ⟨(nI (i + 1), τ), ⟨rfl, fun s hs => ?_, i3⟩, fun k => ?_⟩
      · rw [i2 s hs]
        by_cases e : s = i
        · subst e
          rw [if_neg (fun h => by rw [b1] at h; exact absurd h.1 (by decide)), if_neg (fun h => by rw [b1] at h; exact absurd h.1 (by decide))]
        · have : (p s = true ∧ s < i) = (p s = true ∧ s < i + 1) := propext (and_congr Iff.rfl (by omega))
          simp only [this]
      · simp (disch := omega) only [lit_nI, nI_leS, nI_ltS, nI_eqS, nI_clS, nI_add, mulI, tI_leS, tI_ltS, tI_eqS, tI_m1, nI_m1, tI_eqn, tI_eqn2, tI_ltn, tI_nle, tI_len, tI_nlt, gi_nI, gi_lit, gz_nI, bnd_some, jn_def, vb_def, if_true, if_false, b2i_0, b2i_1, b2i_t, b2i_f, gb_b2i, gb_n0, gb_n1, bitN, bit0N, sh1N, orI, andI, e7_within, ite_self, n10, n01, Bool.true_eq_false, Bool.false_eq_true, f_X3_giveRank_3, h0', c0, hb, b1]) (fun m a hI => by
    obtain ⟨a1, τ⟩ := a
    obtain ⟨i1, i2, i3⟩ := hI
    dsimp only at i1 i2 i3 ⊢
    subst i1
    intro k
    have h0' : τ.1 o 8 = nI N := (i3.1 o 8 (by simp [sR]; omega)).trans h0
    simp (disch := omega) only [lit_nI, nI_leS, nI_ltS, nI_eqS, nI_clS, nI_add, mulI, tI_leS, tI_ltS, tI_eqS, tI_m1, nI_m1, tI_eqn, tI_eqn2, tI_ltn, tI_nle, tI_len, tI_nlt, gi_nI, gi_lit, gz_nI, bnd_some, jn_def, vb_def, if_true, if_false, b2i_0, b2i_1, b2i_t, b2i_f, gb_b2i, gb_n0, gb_n1, bitN, bit0N, sh1N, orI, andI, e7_within, ite_self, n10, n01, Bool.true_eq_false, Bool.false_eq_true, f_X3_giveRank_3, h0', Nat.le_refl]) (nI 0, σ) ⟨rfl, fun s hs => by simp, Fr.rf⟩
  refine ⟨τ, fun s hs => ?_, i3, by rw [f_X3_giveRank]; exact i4 _⟩
  have := i2 s hs
  simp only [hs, and_true] at this
  exact this
end
