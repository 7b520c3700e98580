/-! ===== the relation ===== -/
theorem i_cases (a : Int32) : a < 0 ∨ ∃ j, j < 2147483648 ∧ a = nI j := by
  rcases Classical.em (a < 0) with h | h
  · exact Or.inl h
  · right
    have h0 : (0 : Int32) ≤ a := Int32.not_lt.mp h
    have h1 : 0 ≤ a.toInt := by
      have := Int32.le_iff_toInt_le.mp h0
      exact this
    have h2 := a.toInt_lt
    refine ⟨a.toInt.toNat, by omega, ?_⟩
    apply Int32.toInt_inj.mp
    rw [nI_toInt (by omega)]
    omega
theorem neg_lt {a : Int32} (h : a < 0) (j : Nat) (hj : j < 2147483648) : a < nI j := by
  rw [Int32.lt_iff_toInt_lt] at h ⊢
  rw [nI_toInt hj]
  have h0 : (0 : Int32).toInt = 0 := rfl
  rw [h0] at h
  omega
theorem neg_nle {a : Int32} (h : a < 0) (j : Nat) (hj : j < 2147483648) : ¬ nI j ≤ a := Int32.not_le.mpr (neg_lt h j hj)
theorem neg_ne {a : Int32} (h : a < 0) (j : Nat) (hj : j < 2147483648) : ¬ a = nI j := fun e => by
  have := neg_lt h j hj
  rw [e] at this
  exact Int32.lt_irrefl this
/-- segments of the channel -/
def LL (n C : Nat) (P : Nat → Nat) : List (Nat × Nat × Nat) := sgs P n C 6
def RC (σ : xSt) (n C : Nat) (P T : Nat → Nat) : Prop :=
  CP σ n P ∧ C < 64 ∧ σ.1 0 7 = nI C ∧ CW σ 5 n P (sgs P n C 6) ∧ CRg σ (bel P n (sgs P n C 6)) (sgs P n C 6).length ∧ CZo σ (xs (gN (sgs P n C 6)) (gF (sgs P n C 6)) (gL (sgs P n C 6)) (sgs P n C 6).length) n ∧ CTr σ (sgs P n C 6).length T
def RM (σ : xSt) (n C : Nat) (P T : Nat → Nat) : Prop :=
  MP σ n P ∧ σ.1 0 2 = nI C ∧ HM σ (sgs P n C 6) ∧ MB σ (sgs P n C 6).length (bel P n (sgs P n C 6)) ∧ MF σ (sgs P n C 6).length (far (bel P n (sgs P n C 6)) (sgs P n C 6).length) ∧ MRg σ (bel P n (sgs P n C 6)) (sgs P n C 6).length ∧ MT σ (sgs P n C 6).length T
/-- the texts -/
def RT (σ τ : xSt) (l : Nat) (X : Nat → Nat) : Prop := l ≤ 20 ∧ σ.1 1 1 = nI l ∧ τ.1 0 14 = nI l ∧ ∀ i, i < l → σ.1 2 i = nI (X i) ∧ τ.1 9 i = nI (X i) ∧ 32 ≤ X i ∧ X i ≤ 126
/-- the counters -/
def RN (σ τ : xSt) (b : Nat) : Prop := b ≤ 20 ∧ σ.1 0 8 = τ.1 0 3 ∧ σ.1 0 9 = nI b ∧ τ.1 0 13 = nI b
def RR (σ τ : xSt) (n C : Nat) (P T : Nat → Nat) (l : Nat) (X : Nat → Nat) (b : Nat) : Prop := RC σ n C P T ∧ RM τ n C P T ∧ RT σ τ l X ∧ RN σ τ b
def RE (σ τ : xSt) : Prop := ∃ n C P T l X b, RR σ τ n C P T l X b
def rC (c k : Nat) : Bool := (decide (c = 0) && decide (k = 7)) || ((decide (3 ≤ c) && decide (c ≤ 13)) || ((decide (23 ≤ c) && decide (c ≤ 27)) || decide (c = 29)))
def rM (c k : Nat) : Bool := (decide (c = 0) && (decide (k = 0) || (decide (k = 2) || (decide (k = 4) || decide (k = 11))))) || (decide (1 ≤ c) && decide (c ≤ 8))
section
variable {σ σ' τ τ' : xSt} {n C l b : Nat} {P T X : Nat → Nat}
theorem RC.ext (h : RC σ n C P T) (he : ∀ c k, rC c k = true → σ'.1 c k = σ.1 c k) : RC σ' n C P T := by
  obtain ⟨h1, h2, h3, h4, h5, h6, h7⟩ := h
  refine ⟨⟨(he 3 1 rfl).trans h1.1, h1.2.1, fun k hk => ⟨(he 4 k rfl).trans (h1.2.2 k hk).1, (h1.2.2 k hk).2⟩⟩, h2, (he 0 7 rfl).trans h3, h4.fr (fun c k hk => ?_), ⟨fun q => (he 23 1 rfl).trans (h5.1 q), fun a l q => ⟨(he 23 1 rfl).trans (h5.2 a l q).1, fun k hk => (he 24 k rfl).trans ((h5.2 a l q).2 k hk)⟩⟩, ⟨(he 25 3 rfl).trans h6.1, (he 25 2 rfl).trans h6.2.1, fun c hc hz => (he 27 _ rfl).trans (h6.2.2 c hc hz)⟩, ⟨fun s hs => ⟨(he 29 s rfl).trans (h7.1 s hs).1, (h7.1 s hs).2⟩, h7.2⟩⟩
  refine he c k ?_
  simp only [sC, Bool.and_eq_true, decide_eq_true_eq] at hk
  simp only [rC, Bool.or_eq_true, Bool.and_eq_true, decide_eq_true_eq]
  omega
theorem RM.ext (h : RM σ n C P T) (he : ∀ c k, rM c k = true → σ'.1 c k = σ.1 c k) : RM σ' n C P T := by
  obtain ⟨h1, h2, h3, h4, h5, h6, h7⟩ := h
  exact ⟨⟨(he 0 0 rfl).trans h1.1, h1.2.1, fun k hk => ⟨(he 1 k rfl).trans (h1.2.2 k hk).1, (h1.2.2 k hk).2⟩⟩, (he 0 2 rfl).trans h2, ⟨(he 0 4 rfl).trans h3.1, fun s hs => ⟨(he 2 s rfl).trans (h3.2 s hs).1, (he 3 s rfl).trans (h3.2 s hs).2.1, (he 4 s rfl).trans (h3.2 s hs).2.2⟩⟩, fun s hs => ⟨(he 6 s rfl).trans (h4 s hs).1, (h4 s hs).2⟩, fun s hs => ⟨(he 7 s rfl).trans (h5 s hs).1, (h5 s hs).2⟩, ⟨fun q => (he 0 11 rfl).trans (h6.1 q), fun a l q => ⟨(he 0 11 rfl).trans (h6.2 a l q).1, fun k hk => (he 8 k rfl).trans ((h6.2 a l q).2 k hk)⟩⟩, fun s hs => ⟨(he 5 s rfl).trans (h7 s hs).1, (h7 s hs).2⟩⟩
theorem RT.ext (h : RT σ τ l X) (h1 : ∀ c k, (c = 1 ∨ c = 2) → σ'.1 c k = σ.1 c k) (h2 : ∀ c k, (c = 9 ∨ (c = 0 ∧ k = 14)) → τ'.1 c k = τ.1 c k) : RT σ' τ' l X := ⟨h.1, (h1 1 1 (Or.inl rfl)).trans h.2.1, (h2 0 14 (Or.inr ⟨rfl, rfl⟩)).trans h.2.2.1, fun i hi => ⟨(h1 2 i (Or.inr rfl)).trans (h.2.2.2 i hi).1, (h2 9 i (Or.inl rfl)).trans (h.2.2.2 i hi).2.1, (h.2.2.2 i hi).2.2⟩⟩
theorem RN.ext (h : RN σ τ b) (h1 : ∀ k, (k = 8 ∨ k = 9) → σ'.1 0 k = σ.1 0 k) (h2 : ∀ k, (k = 3 ∨ k = 13) → τ'.1 0 k = τ.1 0 k) : RN σ' τ' b := ⟨h.1, by rw [h1 8 (Or.inl rfl), h2 3 (Or.inl rfl)]; exact h.2.1, (h1 9 (Or.inr rfl)).trans h.2.2.1, (h2 13 (Or.inr rfl)).trans h.2.2.2⟩
/-- readers: the class may change the trial's cells, the reference its scratch -/
theorem RR.rd (h : RR σ τ n C P T l X b) (h1 : ∀ c k, sC 14 c k = false → σ'.1 c k = σ.1 c k) (h2 : ∀ c k, (rM c k = true ∨ c = 9 ∨ (c = 0 ∧ (k = 14 ∨ k = 3 ∨ k = 13))) → τ'.1 c k = τ.1 c k) : RR σ' τ' n C P T l X b := by
  refine ⟨h.1.ext (fun c k hk => h1 c k ?_), h.2.1.ext (fun c k hk => h2 c k (Or.inl hk)), h.2.2.1.ext (fun c k hk => h1 c k ?_) (fun c k hk => h2 c k ?_), h.2.2.2.ext (fun k hk => h1 0 k rfl) (fun k hk => h2 0 k ?_)⟩
  · simp only [rC, Bool.or_eq_true, Bool.and_eq_true, decide_eq_true_eq] at hk
    simp only [sC, Bool.and_eq_false_iff, decide_eq_false_iff_not]
    omega
  · rcases hk with hk | hk <;> subst hk <;> rfl
  · rcases hk with hk | ⟨hk, hk2⟩
    · exact Or.inr (Or.inl hk)
    · exact Or.inr (Or.inr ⟨hk, Or.inl hk2⟩)
  · rcases hk with hk | hk
    · exact Or.inr (Or.inr ⟨rfl, Or.inr (Or.inl hk)⟩)
    · exact Or.inr (Or.inr ⟨rfl, Or.inr (Or.inr hk)⟩)
theorem RC.len (h : RC σ n C P T) : (sgs P n C 6).length ≤ 14 := h.2.2.2.1.1.1.2.1
theorem RC.cs (h : RC σ n C P T) : CS σ 5 (sgs P n C 6).length (gN (sgs P n C 6)) (gF (sgs P n C 6)) (gL (sgs P n C 6)) := h.2.2.2.1.1.1
theorem RC.ca (h : RC σ n C P T) : CA σ 5 n (sgs P n C 6).length P (gN (sgs P n C 6)) (gF (sgs P n C 6)) (gL (sgs P n C 6)) := h.2.2.2.1.1.2
theorem RC.cb (h : RC σ n C P T) : CB σ 5 (sgs P n C 6).length (bel P n (sgs P n C 6)) := h.2.2.2.1.2.1
theorem RM.ms (h : RM σ n C P T) : MS σ (sgs P n C 6).length (gN (sgs P n C 6)) (gF (sgs P n C 6)) (gL (sgs P n C 6)) := h.2.2.1.ms (sgs_len h.1.2.1 (fun k hk => (h.1.2.2 k hk).2)) (sgs_ok h.1.2.1 (Nat.le_refl 6))
theorem RM.mt (h : RM σ n C P T) : MT σ (sgs P n C 6).length T := h.2.2.2.2.2.2
theorem RM.mb (h : RM σ n C P T) : MB σ (sgs P n C 6).length (bel P n (sgs P n C 6)) := h.2.2.2.1
theorem RM.mr (h : RM σ n C P T) : MRg σ (bel P n (sgs P n C 6)) (sgs P n C 6).length := h.2.2.2.2.2.1
theorem belB {L : List (Nat × Nat × Nat)} : ∀ s, s < L.length → ∀ t, (bel P n L s).testBit t = true → t < L.length := fun s _ t h => bel_lt s t h
theorem belS {L : List (Nat × Nat × Nat)} : ∀ s, s < L.length → (bel P n L s).testBit s = false := fun s _ => bel_self s
end
section
variable {σ τ : xSt} {n C l b : Nat} {P T X : Nat → Nat}
/-! arguments -/
theorem w_in {a : Int32} {hi : Nat} (h : hi < 2147483648) : (decide ((0 : Int32) ≤ a) && decide (a ≤ nI hi)) = true ↔ ∃ j, j ≤ hi ∧ a = nI j := by
  rw [Bool.and_eq_true, decide_eq_true_eq, decide_eq_true_eq]
  constructor
  · rintro ⟨h1, h2⟩
    rcases i_cases a with h3 | ⟨j, h3, h4⟩
    · exact absurd h1 (Int32.not_le.mpr h3)
    · subst h4
      rw [nI_leS h3 h] at h2
      exact ⟨j, h2, rfl⟩
  · rintro ⟨j, h1, h2⟩
    subst h2
    exact ⟨xy_le (a := 0) (Nat.zero_le j) (by omega), xy_le h1 h⟩
/-- a number below a bound, or not -/
theorem c_lt (a : Int32) (N : Nat) (hN : N < 2147483648) : (∃ j, j < N ∧ a = nI j) ∨ (a < 0 ∨ nI N ≤ a) := by
  rcases i_cases a with h | ⟨j, h1, h2⟩
  · exact Or.inr (Or.inl h)
  · rcases Nat.lt_or_ge j N with h | h
    · exact Or.inl ⟨j, h, h2⟩
    · exact Or.inr (Or.inr (by rw [h2]; exact xy_le h h1))
theorem n_lt {a : Int32} {N : Nat} (hN : N < 2147483648) (h : a < 0 ∨ nI N ≤ a) {j : Nat} (hj : j < N) : ¬ a = nI j := fun e => by
  subst e
  rcases h with h | h
  · exact absurd h (xn_lt (b := 0) (Nat.zero_le j) (by omega))
  · exact absurd h (xn_le hj hN)
theorem e6_isColumn (h : CP σ n P) (a : Int32) : f_X6_isColumn a σ = some (b2i (decide ((0 : Int32) ≤ a) && !decide (nI n ≤ a)), σ) := by
  rw [f_X6_isColumn, h.1]
  simp only [jn_def]
  by_cases q1 : a < 0
  · have : ¬ (0 : Int32) ≤ a := Int32.not_le.mpr q1
    rw [if_pos q1, decide_eq_false this]; rfl
  · have h1 : (0 : Int32) ≤ a := Int32.not_lt.mp q1
    rw [if_neg q1, decide_eq_true h1]
    by_cases q2 : nI n ≤ a
    · rw [if_pos q2, decide_eq_true q2]; rfl
    · rw [if_neg q2, decide_eq_false q2]; rfl
theorem e6_isSegment {N : Nat} (h : σ.1 5 8 = nI N) (a : Int32) : f_X6_isSegment a σ = some (b2i (decide ((0 : Int32) ≤ a) && !decide (nI N ≤ a)), σ) := by
  rw [f_X6_isSegment, h]
  simp only [jn_def]
  by_cases q1 : a < 0
  · have : ¬ (0 : Int32) ≤ a := Int32.not_le.mpr q1
    rw [if_pos q1, decide_eq_false this]; rfl
  · have h1 : (0 : Int32) ≤ a := Int32.not_lt.mp q1
    rw [if_neg q1, decide_eq_true h1]
    by_cases q2 : nI N ≤ a
    · rw [if_pos q2, decide_eq_true q2]; rfl
    · rw [if_neg q2, decide_eq_false q2]; rfl
/-- in the range, or not: what both say -/
theorem in_t {N j : Nat} (hN : N < 1000) (h : j < N) : (decide ((0 : Int32) ≤ nI j) && !decide (nI N ≤ nI j)) = true ∧ (decide ((0 : Int32) ≤ nI j) && decide (nI j ≤ nI N - 1)) = true := by
  have h0 : (0 : Int32) ≤ nI j := xy_le (a := 0) (Nat.zero_le j) (by omega)
  have h1 : ¬ nI N ≤ nI j := xn_le h (by omega)
  have e : nI N - 1 = nI (N - 1) := subI (b := 1) (by omega)
  have h2 : nI j ≤ nI N - 1 := by rw [e]; exact xy_le (by omega) (by omega)
  rw [decide_eq_true h0, decide_eq_false h1, decide_eq_true h2]
  exact ⟨rfl, rfl⟩
theorem in_f {a : Int32} {N : Nat} (hN : N < 1000) (h : a < 0 ∨ nI N ≤ a) : (decide ((0 : Int32) ≤ a) && !decide (nI N ≤ a)) = false ∧ (decide ((0 : Int32) ≤ a) && decide (a ≤ nI N - 1)) = false := by
  rcases h with h | h
  · have : ¬ (0 : Int32) ≤ a := Int32.not_le.mpr h
    rw [decide_eq_false this]; exact ⟨rfl, rfl⟩
  · rw [decide_eq_true h]
    refine ⟨by simp, ?_⟩
    rcases i_cases a with h1 | ⟨j, h1, h2⟩
    · exact absurd h (neg_nle h1 N (by omega))
    · subst h2
      rw [nI_leS (by omega) h1] at h
      rcases Nat.eq_zero_or_pos N with h3 | h3
      · subst h3
        have : ¬ nI j ≤ nI 0 - 1 := by
          have : nI 0 - 1 < nI j := neg_lt (by decide) j h1
          exact Int32.not_le.mpr this
        rw [decide_eq_false this, Bool.and_false]
      · have e : nI N - 1 = nI (N - 1) := subI (b := 1) (by omega)
        have : ¬ nI j ≤ nI N - 1 := by rw [e]; exact xn_le (by omega) h1
        rw [decide_eq_false this, Bool.and_false]
theorem e7_isColumn (h : MP σ n P) (a : Int32) : f_X7_isColumn a σ = some (b2i (decide ((0 : Int32) ≤ a) && decide (a ≤ nI n - 1)), σ) := by
  rw [f_X7_isColumn, h.1, e7_within, bnd_some, gb_b2i]
theorem e7_isSegment {N : Nat} (h : σ.1 0 4 = nI N) (a : Int32) : f_X7_isSegment a σ = some (b2i (decide ((0 : Int32) ≤ a) && decide (a ≤ nI N - 1)), σ) := by
  rw [f_X7_isSegment, h, e7_within, bnd_some, gb_b2i]
theorem e6_hasChannel (h : CP σ n P) : f_X6_hasChannel σ = some (b2i (decide (0 < n)), σ) := by
  have hn := h.2.1
  have h0 := h.1
  rcases Nat.eq_zero_or_pos n with q | q
  · have : ¬ 0 < n := by omega
    have q2 : n ≤ 0 := by omega
    simp (disch := omega) only [lit_nI, nI_leS, nI_ltS, nI_eqS, nI_clS, nI_add, mulI, tI_leS, tI_ltS, tI_eqS, tI_m1, nI_m1, tI_eqn, tI_eqn2, tI_ltn, tI_nle, tI_len, tI_nlt, gi_nI, gi_lit, gz_nI, bnd_some, jn_def, vb_def, if_true, if_false, b2i_0, b2i_1, b2i_t, b2i_f, gb_b2i, gb_n0, gb_n1, bitN, bit0N, sh1N, orI, andI, e7_within, ite_self, n10, n01, Bool.true_eq_false, Bool.false_eq_true, f_X6_hasChannel, h0, q2, this, decide_false]
  · have q2 : ¬ n ≤ 0 := by omega
    simp (disch := omega) only [lit_nI, nI_leS, nI_ltS, nI_eqS, nI_clS, nI_add, mulI, tI_leS, tI_ltS, tI_eqS, tI_m1, nI_m1, tI_eqn, tI_eqn2, tI_ltn, tI_nle, tI_len, tI_nlt, gi_nI, gi_lit, gz_nI, bnd_some, jn_def, vb_def, if_true, if_false, b2i_0, b2i_1, b2i_t, b2i_f, gb_b2i, gb_n0, gb_n1, bitN, bit0N, sh1N, orI, andI, e7_within, ite_self, n10, n01, Bool.true_eq_false, Bool.false_eq_true, f_X6_hasChannel, h0, q2, q, decide_true]
end
