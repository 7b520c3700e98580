/-! ===== what stands in the reference's cells ===== -/
def MP (σ : xSt) (n : Nat) (P : Nat → Nat) : Prop := σ.1 0 0 = nI n ∧ n ≤ 8 ∧ ∀ k, k < 2 * n → σ.1 1 k = tI (P k) ∧ P k ≤ 6
def MS (σ : xSt) (N : Nat) (ne fi la : Nat → Nat) : Prop := σ.1 0 4 = nI N ∧ N ≤ 14 ∧ ∀ s, s < N → (σ.1 2 s = nI (ne s) ∧ σ.1 3 s = nI (fi s) ∧ σ.1 4 s = nI (la s)) ∧ ne s < 6 ∧ fi s < 8 ∧ la s < 8
def MB (σ : xSt) (N : Nat) (B : Nat → Nat) : Prop := ∀ s, s < N → σ.1 6 s = nI (B s) ∧ B s < 16384
def MF (σ : xSt) (N : Nat) (F : Nat → Nat) : Prop := ∀ s, s < N → σ.1 7 s = nI (F s) ∧ F s < 16384
def MT (σ : xSt) (N : Nat) (T : Nat → Nat) : Prop := ∀ s, s < N → σ.1 5 s = tI (T s) ∧ T s ≤ 14
/-! ===== the words of the document ===== -/
def hp (P : Nat → Nat) (w c : Nat) : Bool := decide (P (2 * c) = w + 1) || decide (P (2 * c + 1) = w + 1)
def wi (fi la : Nat → Nat) (s c : Nat) : Bool := decide (fi s ≤ c) && decide (c ≤ la s)
def tch (P ne fi la : Nat → Nat) (s c : Nat) : Bool := wi fi la s c && hp P (ne s) c
def met (ne fi la : Nat → Nat) (s t : Nat) : Bool := !decide (ne s = ne t) && (decide (fi s ≤ la t) && decide (fi t ≤ la s))
def msk (ne : Nat → Nat) (p : Nat → Bool) : Nat → Nat := fo (fun s a => a ||| (if p s then 2 ^ ne s else 0)) 0
theorem big64 {m : Nat} (h : m < 64) : m < 2147483648 := Nat.lt_trans h (Nat.le_of_ble_eq_true rfl)
theorem big14 {m : Nat} (h : m < 16384) : m < 2147483648 := Nat.lt_trans h (Nat.le_of_ble_eq_true rfl)
theorem pow6 {e : Nat} (h : e < 6) : 2 ^ e < 64 := Nat.pow_lt_pow_right (by decide : 1 < 2) h
theorem msk_lt {ne : Nat → Nat} {p : Nat → Bool} : ∀ {N : Nat}, (∀ s, s < N → ne s < 6) → msk ne p N < 64
  | 0, _ => by show 0 < 64; omega
  | N + 1, h => by
    have ih := msk_lt (ne := ne) (p := p) (N := N) (fun s hs => h s (by omega))
    show msk ne p N ||| _ < 2 ^ 6
    refine or_lt ih ?_
    split
    · exact pow6 (h N (by omega))
    · decide
theorem msk_bit {ne : Nat → Nat} {p : Nat → Bool} (i : Nat) : ∀ {N : Nat}, (msk ne p N).testBit i = true ↔ ∃ s, s < N ∧ p s = true ∧ ne s = i
  | 0 => by simp [msk, fo]
  | N + 1 => by
    have ih := msk_bit (ne := ne) (p := p) i (N := N)
    show (msk ne p N ||| (if p N then 2 ^ ne N else 0)).testBit i = true ↔ _
    by_cases hp : p N = true
    · rw [if_pos hp, tb_or, Bool.or_eq_true, ih, decide_eq_true_eq]
      constructor
      · rintro (⟨s, h1, h2, h3⟩ | h)
        · exact ⟨s, by omega, h2, h3⟩
        · exact ⟨N, by omega, hp, h.symm⟩
      · rintro ⟨s, h1, h2, h3⟩
        rcases Nat.lt_or_ge s N with h | h
        · exact Or.inl ⟨s, h, h2, h3⟩
        · have : s = N := by omega
          subst this
          exact Or.inr h3.symm
    · rw [if_neg hp, Nat.or_zero, ih]
      constructor
      · rintro ⟨s, h1, h2, h3⟩
        exact ⟨s, by omega, h2, h3⟩
      · rintro ⟨s, h1, h2, h3⟩
        rcases Nat.lt_or_ge s N with h | h
        · exact ⟨s, h, h2, h3⟩
        · have : s = N := by omega
          subst this
          exact absurd h2 hp
theorem msk_ext {ne ne' : Nat → Nat} {p p' : Nat → Bool} {N N' : Nat} (h : ∀ i, (∃ s, s < N ∧ p s = true ∧ ne s = i) ↔ ∃ s, s < N' ∧ p' s = true ∧ ne' s = i) : msk ne p N = msk ne' p' N' := by
  apply Nat.eq_of_testBit_eq
  intro i
  rw [Bool.eq_iff_iff, msk_bit, msk_bit]
  exact h i
section
variable {σ : xSt} {n N : Nat} {P T ne fi la B F : Nat → Nat}
theorem e7_top (h : MP σ n P) {c : Nat} (hc : c < n) : f_X7_top (nI c) σ = some (tI (P (2 * c)), σ) := by
  obtain ⟨h1, h2, h3⟩ := h
  simp (disch := omega) only [lit_nI, nI_leS, nI_ltS, nI_eqS, nI_clS, nI_add, mulI, tI_leS, tI_ltS, tI_eqS, tI_m1, nI_m1, tI_eqn, tI_eqn2, tI_ltn, tI_nle, tI_len, tI_nlt, gi_nI, gi_lit, gz_nI, bnd_some, jn_def, vb_def, if_true, if_false, b2i_0, b2i_1, b2i_t, b2i_f, gb_b2i, gb_n0, gb_n1, bitN, bit0N, sh1N, orI, andI, e7_within, ite_self, n10, n01, Bool.true_eq_false, Bool.false_eq_true, f_X7_top, (h3 (2 * c) (by omega)).1]
theorem e7_bottom (h : MP σ n P) {c : Nat} (hc : c < n) : f_X7_bottom (nI c) σ = some (tI (P (2 * c + 1)), σ) := by
  obtain ⟨h1, h2, h3⟩ := h
  simp (disch := omega) only [lit_nI, nI_leS, nI_ltS, nI_eqS, nI_clS, nI_add, mulI, tI_leS, tI_ltS, tI_eqS, tI_m1, nI_m1, tI_eqn, tI_eqn2, tI_ltn, tI_nle, tI_len, tI_nlt, gi_nI, gi_lit, gz_nI, bnd_some, jn_def, vb_def, if_true, if_false, b2i_0, b2i_1, b2i_t, b2i_f, gb_b2i, gb_n0, gb_n1, bitN, bit0N, sh1N, orI, andI, e7_within, ite_self, n10, n01, Bool.true_eq_false, Bool.false_eq_true, f_X7_bottom, (h3 (2 * c + 1) (by omega)).1]
theorem e7_hasPin (h : MP σ n P) {c w : Nat} (hc : c < n) (hw : w < 6) : f_X7_hasPin (nI w) (nI c) σ = some (b2i (hp P w c), σ) := by
  have g1 := (h.2.2 (2 * c) (by omega)).2
  have g2 := (h.2.2 (2 * c + 1) (by omega)).2
  simp (disch := omega) only [lit_nI, nI_leS, nI_ltS, nI_eqS, nI_clS, nI_add, mulI, tI_leS, tI_ltS, tI_eqS, tI_m1, nI_m1, tI_eqn, tI_eqn2, tI_ltn, tI_nle, tI_len, tI_nlt, gi_nI, gi_lit, gz_nI, bnd_some, jn_def, vb_def, if_true, if_false, b2i_0, b2i_1, b2i_t, b2i_f, gb_b2i, gb_n0, gb_n1, bitN, bit0N, sh1N, orI, andI, e7_within, ite_self, n10, n01, Bool.true_eq_false, Bool.false_eq_true, f_X7_hasPin, e7_top h hc, e7_bottom h hc, hp]
  by_cases h1 : P (2 * c) = w + 1
  · simp [h1, gb_n1, b2i_t]
  · by_cases h2 : P (2 * c + 1) = w + 1
    · simp [h1, h2, gb_n1, b2i_t]
    · simp [h1, h2, gb_n0, b2i_f]
theorem e7_isWithin (h : MS σ N ne fi la) {s c : Nat} (hs : s < N) (hc : c < 100) : f_X7_isWithin (nI s) (nI c) σ = some (b2i (wi fi la s c), σ) := by
  obtain ⟨h1, h2, h3⟩ := h
  obtain ⟨⟨h4, h5, h6⟩, h7, h8, h9⟩ := h3 s hs
  simp (disch := omega) only [lit_nI, nI_leS, nI_ltS, nI_eqS, nI_clS, nI_add, mulI, tI_leS, tI_ltS, tI_eqS, tI_m1, nI_m1, tI_eqn, tI_eqn2, tI_ltn, tI_nle, tI_len, tI_nlt, gi_nI, gi_lit, gz_nI, bnd_some, jn_def, vb_def, if_true, if_false, b2i_0, b2i_1, b2i_t, b2i_f, gb_b2i, gb_n0, gb_n1, bitN, bit0N, sh1N, orI, andI, e7_within, ite_self, n10, n01, Bool.true_eq_false, Bool.false_eq_true, f_X7_isWithin, h4, h5, h6, wi]
theorem e7_touches (hp' : MP σ n P) (h : MS σ N ne fi la) {s c : Nat} (hs : s < N) (hc : c < n) : f_X7_touches (nI s) (nI c) σ = some (b2i (tch P ne fi la s c), σ) := by
  have hn := hp'.2.1
  have hN := h.2.1
  obtain ⟨⟨h4, h5, h6⟩, h7, h8, h9⟩ := h.2.2 s hs
  simp (disch := omega) only [lit_nI, nI_leS, nI_ltS, nI_eqS, nI_clS, nI_add, mulI, tI_leS, tI_ltS, tI_eqS, tI_m1, nI_m1, tI_eqn, tI_eqn2, tI_ltn, tI_nle, tI_len, tI_nlt, gi_nI, gi_lit, gz_nI, bnd_some, jn_def, vb_def, if_true, if_false, b2i_0, b2i_1, b2i_t, b2i_f, gb_b2i, gb_n0, gb_n1, bitN, bit0N, sh1N, orI, andI, e7_within, ite_self, n10, n01, Bool.true_eq_false, Bool.false_eq_true, f_X7_touches, e7_isWithin h hs (show c < 100 by omega), h4, e7_hasPin hp' hc h7, tch]
  cases wi fi la s c <;> cases hp P (ne s) c <;> rfl
theorem e7_isMet (h : MS σ N ne fi la) {s t : Nat} (hs : s < N) (ht : t < N) : f_X7_isMet (nI s) (nI t) σ = some (b2i (met ne fi la s t), σ) := by
  have hN := h.2.1
  obtain ⟨⟨h4, h5, h6⟩, h7, h8, h9⟩ := h.2.2 s hs
  obtain ⟨⟨g4, g5, g6⟩, g7, g8, g9⟩ := h.2.2 t ht
  simp (disch := omega) only [lit_nI, nI_leS, nI_ltS, nI_eqS, nI_clS, nI_add, mulI, tI_leS, tI_ltS, tI_eqS, tI_m1, nI_m1, tI_eqn, tI_eqn2, tI_ltn, tI_nle, tI_len, tI_nlt, gi_nI, gi_lit, gz_nI, bnd_some, jn_def, vb_def, if_true, if_false, b2i_0, b2i_1, b2i_t, b2i_f, gb_b2i, gb_n0, gb_n1, bitN, bit0N, sh1N, orI, andI, e7_within, ite_self, n10, n01, Bool.true_eq_false, Bool.false_eq_true, f_X7_isMet, h4, h5, h6, g4, g5, g6, met]
  by_cases c1 : ne s = ne t
  · simp [c1, gb_n0, b2i_f]
  · by_cases c2 : la t < fi s
    · have : ¬ fi s ≤ la t := by omega
      simp [c1, c2, this, gb_n0, b2i_f]
    · have c2' : fi s ≤ la t := by omega
      by_cases c3 : la s < fi t
      · have : ¬ fi t ≤ la s := by omega
        simp [c1, c2, c3, this, gb_n0, b2i_f]
      · have c3' : fi t ≤ la s := by omega
        simp [c1, c2, c3, c2', c3', gb_n1, b2i_t]
def abv (P ne fi la : Nat → Nat) (n s t : Nat) : Bool := exB (fun c => (decide (P (2 * c) = ne s + 1) && decide (P (2 * c + 1) = ne t + 1)) && (tch P ne fi la s c && tch P ne fi la t c)) n && !decide (ne s = ne t)
theorem e7_isAbove (hP : MP σ n P) (h : MS σ N ne fi la) {s t : Nat} (hs : s < N) (ht : t < N) : f_X7_isAbove (nI s) (nI t) σ = some (b2i (abv P ne fi la n s t), σ) := by
  have hn := hP.2.1
  have hN := h.2.1
  have h0 := hP.1
  obtain ⟨⟨h4, h5, h6⟩, h7, h8, h9⟩ := h.2.2 s hs
  obtain ⟨⟨g4, g5, g6⟩, g7, g8, g9⟩ := h.2.2 t ht
  rw [f_X7_isAbove]
  refine lpF (fun m (a : Int32 × Int32) => f_X7_isAbove_5 (nI s) (nI t) _ m a.1 a.2 σ) (fun i => (b2i (exB (fun c => (decide (P (2 * c) = ne s + 1) && decide (P (2 * c + 1) = ne t + 1)) && (tch P ne fi la s c && tch P ne fi la t c)) i), nI i)) n _ (by omega) (fun m i hi => ?_) (fun m => ?_)
  · have c0 : ¬ n ≤ i := by omega
    have p1 := (hP.2.2 (2 * i) (by omega)).2
    have p2 := (hP.2.2 (2 * i + 1) (by omega)).2
    simp (disch := omega) only [lit_nI, nI_leS, nI_ltS, nI_eqS, nI_clS, nI_add, mulI, tI_leS, tI_ltS, tI_eqS, tI_m1, nI_m1, tI_eqn, tI_eqn2, tI_ltn, tI_nle, tI_len, tI_nlt, gi_nI, gi_lit, gz_nI, bnd_some, jn_def, vb_def, if_true, if_false, b2i_0, b2i_1, b2i_t, b2i_f, gb_b2i, gb_n0, gb_n1, bitN, bit0N, sh1N, orI, andI, e7_within, ite_self, n10, n01, Bool.true_eq_false, Bool.false_eq_true, f_X7_isAbove_5, h0, c0, e7_top hP hi, e7_bottom hP hi, h4, g4, e7_touches hP h hs hi, e7_touches hP h ht hi, exB, fo]
    generalize fo (fun c b => b || (decide (P (2 * c) = ne s + 1) && decide (P (2 * c + 1) = ne t + 1)) && (tch P ne fi la s c && tch P ne fi la t c)) false i = bb
    by_cases q1 : P (2 * i) = ne s + 1 <;> by_cases q2 : P (2 * i + 1) = ne t + 1 <;> cases bb <;> cases tch P ne fi la s i <;> cases tch P ne fi la t i <;> simp [q1, q2, b2i_t, b2i_f, n10, nI_eqS]
  · simp (disch := omega) only [lit_nI, nI_leS, nI_ltS, nI_eqS, nI_clS, nI_add, mulI, tI_leS, tI_ltS, tI_eqS, tI_m1, nI_m1, tI_eqn, tI_eqn2, tI_ltn, tI_nle, tI_len, tI_nlt, gi_nI, gi_lit, gz_nI, bnd_some, jn_def, vb_def, if_true, if_false, b2i_0, b2i_1, b2i_t, b2i_f, gb_b2i, gb_n0, gb_n1, bitN, bit0N, sh1N, orI, andI, e7_within, ite_self, n10, n01, Bool.true_eq_false, Bool.false_eq_true, f_X7_isAbove_5, h0, Nat.le_refl, h4, g4, abv]
    generalize exB _ n = bb
    by_cases q : ne s = ne t <;> cases bb <;> simp [q, b2i_t, b2i_f, gb_n0, gb_n1, n10, nI_eqS]
end
