/-! ===== the reference's levels ===== -/
def s11 (c _ : Nat) : Bool := decide (c = 11)
def prd (B : Nat → Nat) (N : Nat) (t : Nat) : Nat := cmk (fun s => (B s).testBit t) N
theorem prd_eg {B : Nat → Nat} {N s t : Nat} : eg B N s t ↔ eg (prd B N) N t s := by
  simp only [eg, prd, cmk_bit, Bool.and_eq_true, decide_eq_true_eq]
  constructor
  · rintro ⟨h1, h2, h3⟩; exact ⟨⟨h2, h1⟩, h3, h2⟩
  · rintro ⟨⟨h1, h2⟩, h3, h4⟩; exact ⟨h2, h1, h3⟩
section
variable {σ : xSt} {N : Nat} {B : Nat → Nat}
def ML (σ : xSt) (N : Nat) (l : Nat → Nat) : Prop := ∀ s, s < N → σ.1 11 s = nI (l s)
theorem MB.f11 {σ' : xSt} (h : MB σ N B) (hf : Fr s11 σ σ') : MB σ' N B := fun s hs => ⟨(hf.1 6 s rfl).trans (h s hs).1, (h s hs).2⟩
/-- one relaxation -/
def rlx (B l : Nat → Nat) (p t : Nat) : Nat → Nat := fun x => if x = t then (if (B p).testBit t = true ∧ l t ≤ l p then l p + 1 else l t) else l x
theorem e7_rlx1 (h0 : σ.1 0 4 = nI N) (hN : N ≤ 14) (hB : MB σ N B) {p : Nat} (hp : p < N) {b : Nat} (l : Nat → Nat) (hl : ML σ N l) (ub : Nat → Nat) (hu : ∀ t, ub t < 1000)
    (hU : ∀ l' : Nat → Nat, (∀ t, t < N → l' t ≤ ub t) → ∀ t, t < N → (B p).testBit t = true → l' p + 1 ≤ ub t) (hlu : ∀ t, t < N → l t ≤ ub t) :
    ∃ σ' l', ML σ' N l' ∧ Fr s11 σ σ' ∧ (∀ t, t < N → l' t ≤ ub t) ∧ (∀ t, t < N → l t ≤ l' t) ∧ (∀ t, t < N → (B p).testBit t = true → l p + 1 ≤ l' t) ∧ ∀ k, f_X7_levelOf_46 (nI p) k FU (nI 0) σ = k σ' := by
  have hst := lpK (fun k m (a : Int32 × xSt) => f_X7_levelOf_46 (nI p) k m a.1 a.2) (fun i a => a.1 = nI i ∧ Fr s11 σ a.2 ∧ ∃ l', ML a.2 N l' ∧ (∀ t, t < N → l' t ≤ ub t) ∧ (∀ t, t < N → l t ≤ l' t) ∧ (∀ t, t < i → t < N → (B p).testBit t = true → l p + 1 ≤ l' t)) N (fun k a => k a.2) (by omega) (fun m i a hi hI => ?_) (fun m a hI => ?_) (nI 0, σ) ⟨rfl, Fr.rf, l, hl, hlu, fun _ _ => Nat.le_refl _, fun t ht => absurd ht (Nat.not_lt_zero t)⟩
  · obtain ⟨⟨a1, τ⟩, ⟨i1, i2, l', i3, i4, i5, i6⟩, i7⟩ := hst
    exact ⟨τ, l', i3, i2, i4, i5, fun t ht => i6 t ht ht, i7⟩
  · obtain ⟨a1, τ⟩ := a
    obtain ⟨i1, i2, l', i3, i4, i5, i6⟩ := hI
    dsimp only at i1 i2 i3 ⊢
    subst i1
    have c0 : ¬ N ≤ i := by omega
    have h0' : τ.1 0 4 = nI N := (i2.1 0 4 rfl).trans h0
    obtain ⟨b1, b2⟩ := (hB.f11 i2) p hp
    have r1 := i3 p hp
    have r2 := i3 i hi
    have u1 := Nat.lt_of_le_of_lt (i4 p hp) (hu p)
    have u2 := Nat.lt_of_le_of_lt (i4 i hi) (hu i)
    refine ⟨(nI (i + 1), up2 τ 11 i (nI (rlx B l' p i i))), ⟨rfl, i2.tr (Fr.up rfl), rlx B l' p i, ?_, ?_, ?_, ?_⟩, fun k => ?_⟩
    · intro s hs
      by_cases e : s = i
      · subst e; exact up2_same _ _ _ _
      · show (up2 τ 11 i _).1 11 s = _
        rw [up2_place _ _ _ _ e, i3 s hs, rlx, if_neg e]
    · intro t ht
      rw [rlx]
      split
      · rename_i e
        subst e
        split
        · rename_i q
          exact hU l' i4 t ht q.1
        · exact i4 t ht
      · exact i4 t ht
    · intro t ht
      rw [rlx]
      split
      · rename_i e
        subst e
        split
        · rename_i q
          have := i5 t ht
          omega
        · exact i5 t ht
      · exact i5 t ht
    · intro t ht htN hbt
      rw [rlx]
      by_cases e : t = i
      · subst e
        rw [if_pos rfl]
        have := i5 p hp
        split
        · omega
        · rename_i q
          have : ¬ l' t ≤ l' p := fun h => q ⟨hbt, h⟩
          omega
      · rw [if_neg e]
        exact i6 t (by omega) htN hbt
    · have e : rlx B l' p i i = if (B p).testBit i = true ∧ l' i ≤ l' p then l' p + 1 else l' i := by rw [rlx, if_pos rfl]
      rw [e]
      simp (disch := omega) only [lit_nI, nI_leS, nI_ltS, nI_eqS, nI_clS, nI_add, mulI, tI_leS, tI_ltS, tI_eqS, tI_m1, nI_m1, tI_eqn, tI_eqn2, tI_ltn, tI_nle, tI_len, tI_nlt, gi_nI, gi_lit, gz_nI, bnd_some, jn_def, vb_def, if_true, if_false, b2i_0, b2i_1, b2i_t, b2i_f, gb_b2i, gb_n0, gb_n1, bitN, bit0N, sh1N, orI, andI, e7_within, ite_self, n10, n01, Bool.true_eq_false, Bool.false_eq_true, f_X7_levelOf_46, h0', c0, b1, e7_isBit, r1, r2]
      rcases Bool.eq_false_or_eq_true ((B p).testBit i) with b3 | b3
      · by_cases q : l' p < l' i
        · have q' : ¬ l' i ≤ l' p := by omega
          simp [b3, q, q', b2i_t, b2i_f, gb_n0, gb_n1, n10, n01, nI_eqS]
        · have q' : l' i ≤ l' p := by omega
          simp [b3, q, q', b2i_t, b2i_f, gb_n0, gb_n1, n10, n01, nI_eqS]
      · simp [b3, b2i_t, b2i_f, gb_n0, gb_n1, n10, n01, nI_eqS]
  · obtain ⟨a1, τ⟩ := a
    obtain ⟨i1, i2, _⟩ := hI
    dsimp only at i1 i2 ⊢
    subst i1
    intro k
    have h0' : τ.1 0 4 = nI N := (i2.1 0 4 rfl).trans h0
    simp (disch := omega) only [lit_nI, nI_leS, nI_ltS, nI_eqS, nI_clS, nI_add, mulI, tI_leS, tI_ltS, tI_eqS, tI_m1, nI_m1, tI_eqn, tI_eqn2, tI_ltn, tI_nle, tI_len, tI_nlt, gi_nI, gi_lit, gz_nI, bnd_some, jn_def, vb_def, if_true, if_false, b2i_0, b2i_1, b2i_t, b2i_f, gb_b2i, gb_n0, gb_n1, bitN, bit0N, sh1N, orI, andI, e7_within, ite_self, n10, n01, Bool.true_eq_false, Bool.false_eq_true, f_X7_levelOf_46, h0', Nat.le_refl]
theorem e7_rlx2 (h0 : σ.1 0 4 = nI N) (hN : N ≤ 14) (hB : MB σ N B) (l : Nat → Nat) (hl : ML σ N l) (ub : Nat → Nat) (hu : ∀ t, ub t < 1000)
    (hU : ∀ p, p < N → ∀ l' : Nat → Nat, (∀ t, t < N → l' t ≤ ub t) → ∀ t, t < N → (B p).testBit t = true → l' p + 1 ≤ ub t) (hlu : ∀ t, t < N → l t ≤ ub t) :
    ∃ σ' l', ML σ' N l' ∧ Fr s11 σ σ' ∧ (∀ t, t < N → l' t ≤ ub t) ∧ (∀ t, t < N → l t ≤ l' t) ∧ (∀ p t, p < N → t < N → (B p).testBit t = true → l p + 1 ≤ l' t) ∧ ∀ k, f_X7_levelOf_35 k FU (nI 0) σ = k σ' := by
  have hst := lpK (fun k m (a : Int32 × xSt) => f_X7_levelOf_35 k m a.1 a.2) (fun i a => a.1 = nI i ∧ Fr s11 σ a.2 ∧ ∃ l', ML a.2 N l' ∧ (∀ t, t < N → l' t ≤ ub t) ∧ (∀ t, t < N → l t ≤ l' t) ∧ (∀ p t, p < i → t < N → (B p).testBit t = true → l p + 1 ≤ l' t)) N (fun k a => k a.2) (by omega) (fun m i a hi hI => ?_) (fun m a hI => ?_) (nI 0, σ) ⟨rfl, Fr.rf, l, hl, hlu, fun _ _ => Nat.le_refl _, fun p t hp => absurd hp (Nat.not_lt_zero p)⟩
  · obtain ⟨⟨a1, τ⟩, ⟨i1, i2, l', i3, i4, i5, i6⟩, i7⟩ := hst
    exact ⟨τ, l', i3, i2, i4, i5, i6, i7⟩
  · obtain ⟨a1, τ⟩ := a
    obtain ⟨i1, i2, l', i3, i4, i5, i6⟩ := hI
    dsimp only at i1 i2 i3 ⊢
    subst i1
    have c0 : ¬ N ≤ i := by omega
    have h0' : τ.1 0 4 = nI N := (i2.1 0 4 rfl).trans h0
    obtain ⟨τ', l2, g1, g2, g3, g4, g5, g6⟩ := e7_rlx1 (b := 0) h0' hN (hB.f11 i2) hi l' i3 ub hu (hU i hi) i4
    refine ⟨(nI (i + 1), τ'), ⟨rfl, i2.tr g2, l2, g1, g3, fun t ht => Nat.le_trans (i5 t ht) (g4 t ht), fun p t hp ht hb => ?_⟩, fun k => ?_⟩
    · by_cases e : p = i
      · subst e
        have := g5 t ht hb
        have := i5 p hi
        omega
      · exact Nat.le_trans (i6 p t (by omega) ht hb) (g4 t ht)
    · simp (disch := omega) only [lit_nI, nI_leS, nI_ltS, nI_eqS, nI_clS, nI_add, mulI, tI_leS, tI_ltS, tI_eqS, tI_m1, nI_m1, tI_eqn, tI_eqn2, tI_ltn, tI_nle, tI_len, tI_nlt, gi_nI, gi_lit, gz_nI, bnd_some, jn_def, vb_def, if_true, if_false, b2i_0, b2i_1, b2i_t, b2i_f, gb_b2i, gb_n0, gb_n1, bitN, bit0N, sh1N, orI, andI, e7_within, ite_self, n10, n01, Bool.true_eq_false, Bool.false_eq_true, f_X7_levelOf_35, h0', c0, g6]
  · obtain ⟨a1, τ⟩ := a
    obtain ⟨i1, i2, _⟩ := hI
    dsimp only at i1 i2 ⊢
    subst i1
    intro k
    have h0' : τ.1 0 4 = nI N := (i2.1 0 4 rfl).trans h0
    simp (disch := omega) only [lit_nI, nI_leS, nI_ltS, nI_eqS, nI_clS, nI_add, mulI, tI_leS, tI_ltS, tI_eqS, tI_m1, nI_m1, tI_eqn, tI_eqn2, tI_ltn, tI_nle, tI_len, tI_nlt, gi_nI, gi_lit, gz_nI, bnd_some, jn_def, vb_def, if_true, if_false, b2i_0, b2i_1, b2i_t, b2i_f, gb_b2i, gb_n0, gb_n1, bitN, bit0N, sh1N, orI, andI, e7_within, ite_self, n10, n01, Bool.true_eq_false, Bool.false_eq_true, f_X7_levelOf_35, h0', Nat.le_refl]
theorem e7_levelOf (h0 : σ.1 0 4 = nI N) (hN : N ≤ 14) (hB : MB σ N B) (ha : ¬ cyc B N) {s : Nat} (hs : s < N) : ∃ σ', f_X7_levelOf (nI s) σ = some (nI (lvl (prd B N) N s), σ') ∧ Fr s11 σ σ' := by
  have haV : ¬ cyc (prd B N) N := fun h => ha ((cyc_rev (fun s t => prd_eg)).mpr h)
  -- all levels begin as 0
  obtain ⟨⟨a1, τ0⟩, ⟨z1, z2, z3⟩, z4⟩ := lpK (fun k m (a : Int32 × xSt) => f_X7_levelOf_2 k m a.1 a.2) (fun i a => a.1 = nI i ∧ Fr s11 σ a.2 ∧ ∀ t, t < i → a.2.1 11 t = nI 0) N (fun k a => k a.2) (by omega) (fun m i a hi hI => by
    obtain ⟨a1, τ⟩ := a
    obtain ⟨i1, i2, i3⟩ := hI
    dsimp only at i1 i2 i3 ⊢
    subst i1
    have c0 : ¬ N ≤ i := by omega
    have h0' : τ.1 0 4 = nI N := (i2.1 0 4 rfl).trans h0
    refine ⟨(nI (i + 1), up2 τ 11 i (nI 0)), ⟨rfl, i2.tr (Fr.up rfl), fun t ht => ?_⟩, fun k => ?_⟩
    · by_cases e : t = i
      · subst e; exact up2_same _ _ _ _
      · show (up2 τ 11 i _).1 11 t = _
        rw [up2_place _ _ _ _ e]; exact i3 t (by omega)
    · simp (disch := omega) only [lit_nI, nI_leS, nI_ltS, nI_eqS, nI_clS, nI_add, mulI, tI_leS, tI_ltS, tI_eqS, tI_m1, nI_m1, tI_eqn, tI_eqn2, tI_ltn, tI_nle, tI_len, tI_nlt, gi_nI, gi_lit, gz_nI, bnd_some, jn_def, vb_def, if_true, if_false, b2i_0, b2i_1, b2i_t, b2i_f, gb_b2i, gb_n0, gb_n1, bitN, bit0N, sh1N, orI, andI, e7_within, ite_self, n10, n01, Bool.true_eq_false, Bool.false_eq_true, f_X7_levelOf_2, h0', c0]) (fun m a hI => by
    obtain ⟨a1, τ⟩ := a
    obtain ⟨i1, i2, i3⟩ := hI
    dsimp only at i1 i2 i3 ⊢
    subst i1
    intro k
    have h0' : τ.1 0 4 = nI N := (i2.1 0 4 rfl).trans h0
    simp (disch := omega) only [lit_nI, nI_leS, nI_ltS, nI_eqS, nI_clS, nI_add, mulI, tI_leS, tI_ltS, tI_eqS, tI_m1, nI_m1, tI_eqn, tI_eqn2, tI_ltn, tI_nle, tI_len, tI_nlt, gi_nI, gi_lit, gz_nI, bnd_some, jn_def, vb_def, if_true, if_false, b2i_0, b2i_1, b2i_t, b2i_f, gb_b2i, gb_n0, gb_n1, bitN, bit0N, sh1N, orI, andI, e7_within, ite_self, n10, n01, Bool.true_eq_false, Bool.false_eq_true, f_X7_levelOf_2, h0', Nat.le_refl]) (nI 0, σ) ⟨rfl, Fr.rf, fun t ht => absurd ht (Nat.not_lt_zero t)⟩
  dsimp only at z1 z2 z3 z4
  have hU : ∀ p, p < N → ∀ l' : Nat → Nat, (∀ t, t < N → l' t ≤ lvl (prd B N) N t) → ∀ t, t < N → (B p).testBit t = true → l' p + 1 ≤ lvl (prd B N) N t := by
    intro p hp l' hl' t ht hb
    have h1 := lvl_edge haV (prd_eg.mp ⟨hb, hp, ht⟩)
    have h2 := hl' p hp
    omega
  have hu : ∀ t, lvl (prd B N) N t < 1000 := fun t => Nat.lt_of_le_of_lt (cnt_le _ N) (by omega)
  obtain ⟨⟨a2, τ1⟩, ⟨y1, y2, l, y3, y4, y5⟩, y6⟩ := lpK (fun k m (a : Int32 × xSt) => f_X7_levelOf_25 k m a.1 a.2) (fun i a => a.1 = nI i ∧ Fr s11 τ0 a.2 ∧ ∃ l, ML a.2 N l ∧ (∀ t, t < N → l t ≤ lvl (prd B N) N t) ∧ ∀ t, t < N → ∀ c, c ≤ i → c ≤ lvl (prd B N) N t → c ≤ l t) N (fun k a => k a.2) (by omega) (fun m i a hi hI => by
    obtain ⟨a1, τ⟩ := a
    obtain ⟨i1, i2, l, i3, i4, i5⟩ := hI
    dsimp only at i1 i2 i3 ⊢
    subst i1
    have c0 : ¬ N ≤ i := by omega
    have hf := z2.tr i2
    have h0' : τ.1 0 4 = nI N := (hf.1 0 4 rfl).trans h0
    obtain ⟨τ', l', g1, g2, g3, g4, g5, g6⟩ := e7_rlx2 h0' hN (hB.f11 hf) l i3 _ hu hU i4
    refine ⟨(nI (i + 1), τ'), ⟨rfl, i2.tr g2, l', g1, g3, fun t ht c hc hcl => ?_⟩, fun k => ?_⟩
    · cases c with
      | zero => exact Nat.zero_le _
      | succ c =>
        have hlt := lvl_lt haV ht
        have hpw := (lvl_iff (V := prd B N) (show c + 1 ≤ N by omega) ht).mp hcl
        obtain ⟨x, p, hp, hx⟩ := pwB_iff.mp hpw
        have hp' := prd_eg.mpr hp
        have h1 := (lvl_iff (V := prd B N) (show c ≤ N by omega) hp.2.2).mpr (pwB_iff.mpr ⟨x, hx⟩)
        have h2 := i5 p hp.2.2 c (by omega) h1
        have h3 := g5 p t hp.2.2 ht hp'.1
        omega
    · simp (disch := omega) only [lit_nI, nI_leS, nI_ltS, nI_eqS, nI_clS, nI_add, mulI, tI_leS, tI_ltS, tI_eqS, tI_m1, nI_m1, tI_eqn, tI_eqn2, tI_ltn, tI_nle, tI_len, tI_nlt, gi_nI, gi_lit, gz_nI, bnd_some, jn_def, vb_def, if_true, if_false, b2i_0, b2i_1, b2i_t, b2i_f, gb_b2i, gb_n0, gb_n1, bitN, bit0N, sh1N, orI, andI, e7_within, ite_self, n10, n01, Bool.true_eq_false, Bool.false_eq_true, f_X7_levelOf_25, h0', c0, g6]) (fun m a hI => by
    obtain ⟨a1, τ⟩ := a
    obtain ⟨i1, i2, _⟩ := hI
    dsimp only at i1 i2 ⊢
    subst i1
    intro k
    have h0' : τ.1 0 4 = nI N := ((z2.tr i2).1 0 4 rfl).trans h0
    simp (disch := omega) only [lit_nI, nI_leS, nI_ltS, nI_eqS, nI_clS, nI_add, mulI, tI_leS, tI_ltS, tI_eqS, tI_m1, nI_m1, tI_eqn, tI_eqn2, tI_ltn, tI_nle, tI_len, tI_nlt, gi_nI, gi_lit, gz_nI, bnd_some, jn_def, vb_def, if_true, if_false, b2i_0, b2i_1, b2i_t, b2i_f, gb_b2i, gb_n0, gb_n1, bitN, bit0N, sh1N, orI, andI, e7_within, ite_self, n10, n01, Bool.true_eq_false, Bool.false_eq_true, f_X7_levelOf_25, h0', Nat.le_refl]) (nI 0, τ0) ⟨rfl, Fr.rf, fun _ => 0, fun t ht => z3 t ht, fun _ _ => Nat.zero_le _, fun t ht c hc _ => by omega⟩
  dsimp only at y1 y2 y3 y4 y5 y6
  have hl : l s = lvl (prd B N) N s := by
    have h1 := y4 s hs
    have h2 := y5 s hs (lvl (prd B N) N s) (Nat.le_of_lt (lvl_lt haV hs)) (Nat.le_refl _)
    omega
  refine ⟨τ1, ?_, z2.tr y2⟩
  have r := y3 s hs
  rw [hl] at r
  simp (disch := omega) only [lit_nI, nI_leS, nI_ltS, nI_eqS, nI_clS, nI_add, mulI, tI_leS, tI_ltS, tI_eqS, tI_m1, nI_m1, tI_eqn, tI_eqn2, tI_ltn, tI_nle, tI_len, tI_nlt, gi_nI, gi_lit, gz_nI, bnd_some, jn_def, vb_def, if_true, if_false, b2i_0, b2i_1, b2i_t, b2i_f, gb_b2i, gb_n0, gb_n1, bitN, bit0N, sh1N, orI, andI, e7_within, ite_self, n10, n01, Bool.true_eq_false, Bool.false_eq_true, f_X7_levelOf, z4, y6, r]
end
