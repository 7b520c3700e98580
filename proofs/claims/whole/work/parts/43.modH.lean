theorem lpS {A R : Type} (F : Nat → A → R) (I : Nat → A → Prop) (N : Nat) (hN : N ≤ 1000000) (hs : ∀ n i a, i < N → I i a → ∃ a', I (i + 1) a' ∧ F (n + 1) a = F n a') (a : A) (h0 : I 0 a) : ∃ a' m, I N a' ∧ F FU a = F (m + 1) a' := by
  have key : ∀ (d i n : Nat) (a : A), i + d = N → d < n → I i a → ∃ a' m, I N a' ∧ F n a = F (m + 1) a' := by
    intro d
    induction d with
    | zero =>
      intro i n a hi hn h
      obtain ⟨k, rfl⟩ : ∃ k, n = k + 1 := ⟨n - 1, by omega⟩
      have : i = N := by omega
      subst this
      exact ⟨a, k, h, rfl⟩
    | succ d ih =>
      intro i n a hi hn h
      obtain ⟨k, rfl⟩ : ∃ k, n = k + 1 := ⟨n - 1, by omega⟩
      obtain ⟨a', h1, h2⟩ := hs k i a (by omega) h
      obtain ⟨a2, m, h3, h4⟩ := ih (i + 1) k a' (by omega) (by omega) h1
      exact ⟨a2, m, h3, h2.trans h4⟩
  have := FU_big
  exact key N 0 FU a (by omega) (by omega) h0
section
variable {σ : xSt} {N : Nat} {B F : Nat → Nat}
/-- what finding the ring may change -/
def sG (c k : Nat) : Bool := decide (c = 10) || (decide (c = 8) || (decide (c = 0) && decide (k = 11)))
theorem s10_G : ∀ c k, sG c k = false → s10 c k = false := by
  intro c k h
  simp only [sG, Bool.or_eq_false_iff] at h
  exact h.1
theorem MB.fG {σ' : xSt} (h : MB σ N B) (hf : Fr sG σ σ') : MB σ' N B := fun s hs => ⟨(hf.1 6 s rfl).trans (h s hs).1, (h s hs).2⟩
theorem e7_findRing_no (h0 : σ.1 0 4 = nI N) (hN : N ≤ 14) (hB : MB σ N B) {m : Nat} (hm : m ≤ 14) (hno : ∀ v, v < N → (bkM B N v m m).testBit v = false) : ∃ σ', f_X7_findRing (nI m) σ = some (nI 0, σ') ∧ Fr s10 σ σ' := by
  obtain ⟨⟨y, τ⟩, ⟨i1, i2⟩, i3⟩ := lpK (fun kk q (x : Int32 × xSt) => f_X7_findRing_2 (nI m) kk q x.1 x.2) (fun i y => y.1 = nI i ∧ Fr s10 σ y.2) N (fun kk y => kk y.2) (by omega) (fun q i y hi hI => by
    obtain ⟨y1, τ⟩ := y
    obtain ⟨i1, i2⟩ := hI
    dsimp only at i1 i2 ⊢
    subst i1
    have c0 : ¬ N ≤ i := by omega
    have h0' : τ.1 0 4 = nI N := (i2.1 0 4 rfl).trans h0
    obtain ⟨τ', g1, g2, g3⟩ := e7_layBack h0' hN (hB.f10 i2) hi hm
    rw [hno i hi] at g1
    refine ⟨(nI (i + 1), τ'), ⟨rfl, i2.tr g3⟩, fun kk => ?_⟩
    simp (disch := omega) only [lit_nI, nI_leS, nI_ltS, nI_eqS, nI_clS, nI_add, mulI, tI_leS, tI_ltS, tI_eqS, tI_m1, nI_m1, tI_eqn, tI_eqn2, tI_ltn, tI_nle, tI_len, tI_nlt, gi_nI, gi_lit, gz_nI, bnd_some, jn_def, vb_def, if_true, if_false, b2i_0, b2i_1, b2i_t, b2i_f, gb_b2i, gb_n0, gb_n1, bitN, bit0N, sh1N, orI, andI, e7_within, ite_self, n10, n01, Bool.true_eq_false, Bool.false_eq_true, f_X7_findRing_2, h0', c0, g1]) (fun q y hI => by
    obtain ⟨y1, τ⟩ := y
    obtain ⟨i1, i2⟩ := hI
    dsimp only at i1 i2 ⊢
    subst i1
    intro kk
    have h0' : τ.1 0 4 = nI N := (i2.1 0 4 rfl).trans h0
    simp (disch := omega) only [lit_nI, nI_leS, nI_ltS, nI_eqS, nI_clS, nI_add, mulI, tI_leS, tI_ltS, tI_eqS, tI_m1, nI_m1, tI_eqn, tI_eqn2, tI_ltn, tI_nle, tI_len, tI_nlt, gi_nI, gi_lit, gz_nI, bnd_some, jn_def, vb_def, if_true, if_false, b2i_0, b2i_1, b2i_t, b2i_f, gb_b2i, gb_n0, gb_n1, bitN, bit0N, sh1N, orI, andI, e7_within, ite_self, n10, n01, Bool.true_eq_false, Bool.false_eq_true, f_X7_findRing_2, h0', Nat.le_refl]) (nI 0, σ) ⟨rfl, Fr.rf⟩
  dsimp only at i1 i2 i3
  refine ⟨τ, ?_, i2⟩
  simp (disch := omega) only [lit_nI, nI_leS, nI_ltS, nI_eqS, nI_clS, nI_add, mulI, tI_leS, tI_ltS, tI_eqS, tI_m1, nI_m1, tI_eqn, tI_eqn2, tI_ltn, tI_nle, tI_len, tI_nlt, gi_nI, gi_lit, gz_nI, bnd_some, jn_def, vb_def, if_true, if_false, b2i_0, b2i_1, b2i_t, b2i_f, gb_b2i, gb_n0, gb_n1, bitN, bit0N, sh1N, orI, andI, e7_within, ite_self, n10, n01, Bool.true_eq_false, Bool.false_eq_true, f_X7_findRing, i3]
theorem rg_low (hBb : ∀ s, s < N → ∀ t, (B s).testBit t = true → t < N) {a l j : Nat} (h : rng B N a l) (hN : N ≤ 14) (hj : j + 1 < l) : lowB (B (rg B N a l j) &&& bkM B N a l (l - (j + 1))) 16 = nI (rg B N a l (j + 1)) := by
  obtain ⟨i1, i2, i3⟩ := rg_ok hBb h j (by omega)
  obtain ⟨k1, k2, k3⟩ := rg_ok hBb h (j + 1) hj
  have e : rg B N a l (j + 1) = fst (fun t => (B (rg B N a l j)).testBit t && decide (sd B N t a = l - (j + 1))) N := rfl
  have hno := fst_no (fun t => (B (rg B N a l j)).testBit t && decide (sd B N t a = l - (j + 1))) N
  have hyes := fst_yes (fun t => (B (rg B N a l j)).testBit t && decide (sd B N t a = l - (j + 1))) N
  rw [← e] at hno hyes
  have hf : fst (fun t => (B (rg B N a l j) &&& bkM B N a l (l - (j + 1))).testBit t) 16 = rg B N a l (j + 1) := by
    refine fst_eq (by omega) (fun t ht => ?_) (fun _ => ?_)
    · rw [Nat.testBit_and]
      rcases Bool.eq_false_or_eq_true ((B (rg B N a l j)).testBit t) with b1 | b1
      · rcases Bool.eq_false_or_eq_true ((bkM B N a l (l - (j + 1))).testBit t) with b2 | b2
        · have he : eg B N (rg B N a l j) t := ⟨b1, i1, hBb _ i1 t b1⟩
          have := (nxt_iff hBb h hj i2 he).mpr (bkM_wk hBb h.1 b2)
          have h2 := hno t ht
          simp [b1, this] at h2
        · rw [b2, Bool.and_false]
      · rw [b1, Bool.false_and]
    · have hy := hyes k1
      simp only [Bool.and_eq_true, decide_eq_true_eq] at hy
      rw [Nat.testBit_and, hy.1, bkM_all hBb h (by omega) (by omega) k3 (by rw [show l - (l - (j + 1)) = j + 1 by omega]; exact k2)]
      rfl
  rw [lowB, hf, if_pos (by omega)]
theorem e7_findRing_yes (hself : ∀ s, s < N → (B s).testBit s = false) (hBb : ∀ s, s < N → ∀ t, (B s).testBit t = true → t < N) (h0 : σ.1 0 4 = nI N) (hN : N ≤ 14) (hB : MB σ N B) {a l : Nat} (h : rng B N a l) : ∃ σ', f_X7_findRing (nI l) σ = some (nI 1, σ') ∧ σ'.1 0 11 = nI l ∧ (∀ k, k < l → σ'.1 8 k = nI (rg B N a l k)) ∧ Fr sG σ σ' := by
  have hlN : l ≤ N := by rw [← h.2.2.1]; exact sd_le
  have h2 := rng_2 hself hBb h
  have haN := h.1
  obtain ⟨⟨y, τ⟩, q, ⟨i1, i2⟩, i3⟩ := lpS (fun q (x : Int32 × xSt) => f_X7_findRing_2 (nI l) (fun s9 => gb 0 (some (0, s9))) q x.1 x.2) (fun i y => y.1 = nI i ∧ Fr s10 σ y.2) a (by omega) (fun q i y hi hI => by
    obtain ⟨y1, τ⟩ := y
    obtain ⟨i1, i2⟩ := hI
    dsimp only at i1 i2 ⊢
    subst i1
    have c0 : ¬ N ≤ i := by omega
    have h0' : τ.1 0 4 = nI N := (i2.1 0 4 rfl).trans h0
    obtain ⟨τ', g1, g2, g3⟩ := e7_layBack h0' hN (hB.f10 i2) (show i < N by omega) (show l ≤ 14 by omega)
    have hb : (bkM B N i l l).testBit i = false := by
      rw [Bool.eq_false_iff]
      intro hb
      have := rng_ge hBb h (bkM_wk hBb (show i < N by omega) hb)
      omega
    rw [hb] at g1
    refine ⟨(nI (i + 1), τ'), ⟨rfl, i2.tr g3⟩, ?_⟩
    simp (disch := omega) only [lit_nI, nI_leS, nI_ltS, nI_eqS, nI_clS, nI_add, mulI, tI_leS, tI_ltS, tI_eqS, tI_m1, nI_m1, tI_eqn, tI_eqn2, tI_ltn, tI_nle, tI_len, tI_nlt, gi_nI, gi_lit, gz_nI, bnd_some, jn_def, vb_def, if_true, if_false, b2i_0, b2i_1, b2i_t, b2i_f, gb_b2i, gb_n0, gb_n1, bitN, bit0N, sh1N, orI, andI, e7_within, ite_self, n10, n01, Bool.true_eq_false, Bool.false_eq_true, f_X7_findRing_2, h0', c0, g1]) (nI 0, σ) ⟨rfl, Fr.rf⟩
  dsimp only at i1 i2 i3
  subst i1
  have h0' : τ.1 0 4 = nI N := (i2.1 0 4 rfl).trans h0
  obtain ⟨τ1, g1, g2, g3⟩ := e7_layBack h0' hN (hB.f10 i2) haN (show l ≤ 14 by omega)
  rw [bkM_top hself hBb h] at g1
  have f1 : Fr sG τ1 (up2 (up2 τ1 0 11 (nI l)) 8 0 (nI a)) := (Fr.up rfl).tr (Fr.up rfl)
  have fA := ((i2.tr g3).mono s10_G).tr f1
  obtain ⟨⟨y, τ2⟩, ⟨j1, j2, j3, j4⟩, j5⟩ := lpK (fun kk q (x : Int32 × xSt) => f_X7_findRing_33 (nI l) kk q x.1 x.2) (fun i y => y.1 = nI (i + 1) ∧ (∀ k, k ≤ i → y.2.1 8 k = nI (rg B N a l k)) ∧ (y.2.1 0 11 = nI l ∧ ∀ k, k ≤ l → y.2.1 10 k = nI (bkM B N a l k)) ∧ Fr sG σ y.2) (l - 1) (fun kk y => kk y.2) (by omega) (fun q i y hi hI => by
    obtain ⟨y1, υ⟩ := y
    obtain ⟨i1, i2, ⟨i3, i4⟩, i5⟩ := hI
    dsimp only at i1 i2 i3 i4 i5 ⊢
    subst i1
    have c0 : ¬ l ≤ i + 1 := by omega
    obtain ⟨u1, u2, u3⟩ := rg_ok hBb h i (by omega)
    have r1 := i2 i (Nat.le_refl i)
    obtain ⟨b1, b2⟩ := (hB.fG i5) (rg B N a l i) u1
    have r2 := i4 (l - (i + 1)) (by omega)
    have hlt := bkM_lt (B := B) (l := l) haN hN (l - (i + 1))
    have em : nI (i + 1) - nI 1 = nI i := by rw [subI (by omega)]; rfl
    have em2 : nI l - nI (i + 1) = nI (l - (i + 1)) := subI (by omega)
    have hlo := e7_leastOf (big14 (Nat.lt_of_le_of_lt (Nat.and_le_left (n := B (rg B N a l i)) (m := bkM B N a l (l - (i + 1)))) b2)) υ
    rw [rg_low hBb h hN (by omega)] at hlo
    refine ⟨(nI (i + 1 + 1), up2 υ 8 (i + 1) (nI (rg B N a l (i + 1)))), ⟨rfl, fun k hk => ?_, ⟨i3, i4⟩, i5.tr (Fr.up rfl)⟩, fun kk => ?_⟩
    · by_cases e : k = i + 1
      · subst e; exact up2_same _ _ _ _
      · show (up2 υ 8 (i + 1) _).1 8 k = _
        rw [up2_place _ _ _ _ e]; exact i2 k (by omega)
    · simp (disch := omega) only [lit_nI, nI_leS, nI_ltS, nI_eqS, nI_clS, nI_add, mulI, tI_leS, tI_ltS, tI_eqS, tI_m1, nI_m1, tI_eqn, tI_eqn2, tI_ltn, tI_nle, tI_len, tI_nlt, gi_nI, gi_lit, gz_nI, bnd_some, jn_def, vb_def, if_true, if_false, b2i_0, b2i_1, b2i_t, b2i_f, gb_b2i, gb_n0, gb_n1, bitN, bit0N, sh1N, orI, andI, e7_within, ite_self, n10, n01, Bool.true_eq_false, Bool.false_eq_true, f_X7_findRing_33, c0, em, em2, r1, b1, r2, hlo]) (fun q y hI => by
    obtain ⟨y1, υ⟩ := y
    obtain ⟨i1, i2, i3, i5⟩ := hI
    dsimp only at i1 i2 i3 i5 ⊢
    rw [show l - 1 + 1 = l by omega] at i1
    subst i1
    intro kk
    simp (disch := omega) only [lit_nI, nI_leS, nI_ltS, nI_eqS, nI_clS, nI_add, mulI, tI_leS, tI_ltS, tI_eqS, tI_m1, nI_m1, tI_eqn, tI_eqn2, tI_ltn, tI_nle, tI_len, tI_nlt, gi_nI, gi_lit, gz_nI, bnd_some, jn_def, vb_def, if_true, if_false, b2i_0, b2i_1, b2i_t, b2i_f, gb_b2i, gb_n0, gb_n1, bitN, bit0N, sh1N, orI, andI, e7_within, ite_self, n10, n01, Bool.true_eq_false, Bool.false_eq_true, f_X7_findRing_33, Nat.le_refl]) (nI 1, up2 (up2 τ1 0 11 (nI l)) 8 0 (nI a)) ⟨rfl, fun k hk => by
      have : k = 0 := by omega
      subst this; exact up2_same _ _ _ _, ⟨rfl, fun k hk => g2 k hk⟩, fA⟩
  dsimp only at j1 j2 j3 j4 j5
  refine ⟨τ2, ?_, j3.1, fun k hk => j2 k (by omega), j4⟩
  have c0 : ¬ N ≤ a := by omega
  have hend : f_X7_findRing_2 (nI l) (fun s9 => gb 0 (some (0, s9))) (q + 1) (nI a) τ = some (nI 1, τ2) := by
    simp (disch := omega) only [lit_nI, nI_leS, nI_ltS, nI_eqS, nI_clS, nI_add, mulI, tI_leS, tI_ltS, tI_eqS, tI_m1, nI_m1, tI_eqn, tI_eqn2, tI_ltn, tI_nle, tI_len, tI_nlt, gi_nI, gi_lit, gz_nI, bnd_some, jn_def, vb_def, if_true, if_false, b2i_0, b2i_1, b2i_t, b2i_f, gb_b2i, gb_n0, gb_n1, bitN, bit0N, sh1N, orI, andI, e7_within, ite_self, n10, n01, Bool.true_eq_false, Bool.false_eq_true, f_X7_findRing_2, h0', c0, g1, j5]
  rw [f_X7_findRing]
  exact i3.trans hend
theorem e7_layRing (hself : ∀ s, s < N → (B s).testBit s = false) (hBb : ∀ s, s < N → ∀ t, (B s).testBit t = true → t < N) (h0 : σ.1 0 4 = nI N) (hN : N ≤ 14) (hB : MB σ N B) (hF : MF σ N (far B N)) :
    (¬ cyc B N → ∃ σ', f_X7_layRing σ = some ((), σ') ∧ σ'.1 0 11 = nI 0 ∧ Fr sG σ σ') ∧
    (∀ a l, rng B N a l → ∃ σ', f_X7_layRing σ = some ((), σ') ∧ σ'.1 0 11 = nI l ∧ (∀ k, k < l → σ'.1 8 k = nI (rg B N a l k)) ∧ Fr sG σ σ') := by
  have f0 : Fr sG σ (up2 σ 0 11 (nI 0)) := Fr.up rfl
  have ring : ∀ τ : xSt, Fr sG σ τ → f_X7_isRing τ = some (b2i (exB (fun s => (far B N s).testBit s) N), τ) := fun τ hf => e7_isRing ((hf.1 0 4 rfl).trans h0) hN (fun s hs => ⟨(hf.1 7 s rfl).trans (hF s hs).1, (hF s hs).2⟩)
  constructor
  · intro ha
    have hb : exB (fun s => (far B N s).testBit s) N = false := by
      rw [Bool.eq_false_iff]; intro hb; exact ha ((ring_iff hBb).mp hb)
    have r1 := ring _ f0
    rw [hb] at r1
    refine ⟨up2 σ 0 11 (nI 0), ?_, up2_same _ _ _ _, f0⟩
    have := FU_big
    obtain ⟨m, hm⟩ : ∃ m, FU = m + 1 := ⟨FU - 1, by omega⟩
    rw [f_X7_layRing, hm]
    simp (disch := omega) only [lit_nI, nI_leS, nI_ltS, nI_eqS, nI_clS, nI_add, mulI, tI_leS, tI_ltS, tI_eqS, tI_m1, nI_m1, tI_eqn, tI_eqn2, tI_ltn, tI_nle, tI_len, tI_nlt, gi_nI, gi_lit, gz_nI, bnd_some, jn_def, vb_def, if_true, if_false, b2i_0, b2i_1, b2i_t, b2i_f, gb_b2i, gb_n0, gb_n1, bitN, bit0N, sh1N, orI, andI, e7_within, ite_self, n10, n01, Bool.true_eq_false, Bool.false_eq_true, f_X7_layRing_7, r1]
  · intro a l h
    have hlN : l ≤ N := by rw [← h.2.2.1]; exact sd_le
    have h2 := rng_2 hself hBb h
    have hb : exB (fun s => (far B N s).testBit s) N = true := (ring_iff hBb).mpr ⟨a, l, h.2.1, rng_wk hBb h⟩
    obtain ⟨⟨y, τ⟩, q, ⟨i1, i2⟩, i3⟩ := lpS (fun q (x : Int32 × xSt) => f_X7_layRing_7 (fun s6 => some ((), s6)) q x.1 x.2) (fun i y => y.1 = nI (i + 2) ∧ Fr sG σ y.2) (l - 2) (by omega) (fun q i y hi hI => by
      obtain ⟨y1, τ⟩ := y
      obtain ⟨i1, i2⟩ := hI
      dsimp only at i1 i2 ⊢
      subst i1
      have r1 := ring τ i2
      rw [hb] at r1
      have h0' : τ.1 0 4 = nI N := (i2.1 0 4 rfl).trans h0
      obtain ⟨τ', g1, g2⟩ := e7_findRing_no h0' hN (hB.fG i2) (show i + 2 ≤ 14 by omega) (fun v hv => by
        rw [Bool.eq_false_iff]
        intro hbv
        exact rng_no hBb h (show 1 ≤ i + 2 by omega) (show i + 2 < l by omega) (bkM_wk hBb hv hbv))
      have c0 : ¬ N < i + 2 := by omega
      refine ⟨(nI (i + 1 + 2), τ'), ⟨rfl, i2.tr (g2.mono s10_G)⟩, ?_⟩
      simp (disch := omega) only [lit_nI, nI_leS, nI_ltS, nI_eqS, nI_clS, nI_add, mulI, tI_leS, tI_ltS, tI_eqS, tI_m1, nI_m1, tI_eqn, tI_eqn2, tI_ltn, tI_nle, tI_len, tI_nlt, gi_nI, gi_lit, gz_nI, bnd_some, jn_def, vb_def, if_true, if_false, b2i_0, b2i_1, b2i_t, b2i_f, gb_b2i, gb_n0, gb_n1, bitN, bit0N, sh1N, orI, andI, e7_within, ite_self, n10, n01, Bool.true_eq_false, Bool.false_eq_true, f_X7_layRing_7, r1, h0', c0, g1]) (nI 2, up2 σ 0 11 (nI 0)) ⟨rfl, f0⟩
    dsimp only at i1 i2 i3
    rw [show l - 2 + 2 = l by omega] at i1
    subst i1
    have r1 := ring τ i2
    rw [hb] at r1
    have h0' : τ.1 0 4 = nI N := (i2.1 0 4 rfl).trans h0
    obtain ⟨τ', g1, g2, g3, g4⟩ := e7_findRing_yes hself hBb h0' hN (hB.fG i2) h
    refine ⟨τ', ?_, g2, g3, i2.tr g4⟩
    have c0 : ¬ N < l := by omega
    have hend : f_X7_layRing_7 (fun s6 => some ((), s6)) (q + 1) (nI l) τ = some ((), τ') := by
      simp (disch := omega) only [lit_nI, nI_leS, nI_ltS, nI_eqS, nI_clS, nI_add, mulI, tI_leS, tI_ltS, tI_eqS, tI_m1, nI_m1, tI_eqn, tI_eqn2, tI_ltn, tI_nle, tI_len, tI_nlt, gi_nI, gi_lit, gz_nI, bnd_some, jn_def, vb_def, if_true, if_false, b2i_0, b2i_1, b2i_t, b2i_f, gb_b2i, gb_n0, gb_n1, bitN, bit0N, sh1N, orI, andI, e7_within, ite_self, n10, n01, Bool.true_eq_false, Bool.false_eq_true, f_X7_layRing_7, r1, h0', c0, g1]
    rw [f_X7_layRing, vb_def]
    exact i3.trans hend
end
