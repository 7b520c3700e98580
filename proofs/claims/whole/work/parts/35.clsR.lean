theorem nI_lsb (a i : Nat) : (nI a).toBitVec.getLsbD i = (decide (i < 32) && a.testBit i) := by
  show (BitVec.ofNat 32 a).getLsbD i = _
  rw [BitVec.getLsbD_ofNat]
theorem m1_lsb : ∀ i, i < 32 → (-nI 1).toBitVec.getLsbD i = true := by decide +kernel
theorem andNot {a b c : Nat} (h : ∀ i, c.testBit i = (a.testBit i && !b.testBit i)) : nI a &&& (nI b ^^^ -nI 1) = nI c := by
  apply Int32.toBitVec_inj.1
  apply BitVec.eq_of_getLsbD_eq
  intro i hi
  rw [Int32.toBitVec_and, Int32.toBitVec_xor, BitVec.getLsbD_and, BitVec.getLsbD_xor, nI_lsb, nI_lsb, nI_lsb, m1_lsb i hi, h i]
  simp [hi]
section
variable {σ : xSt} {o n N : Nat} {P ne fi la V : Nat → Nat}
theorem lft_next (r : Nat) : nI (lft V N r) &&& (nI (cmk (fre V N r) N) ^^^ -nI 1) = nI (lft V N (r + 1)) := by
  apply andNot
  intro i
  rw [lft, lft, cmk_bit, cmk_bit, cmk_bit, fre]
  by_cases hi : i < N
  · rcases Bool.eq_false_or_eq_true (pwB V N (r + 1) i) with b1 | b1
    · have := pwB_down b1
      simp [hi, b1, this]
    · rcases Bool.eq_false_or_eq_true (pwB V N r i) with b2 | b2 <;> simp [hi, b1, b2]
  · simp [hi]
theorem lft_0 (hN : N ≤ 14) : (nI 1 <<< nI (N &&& 31)) - nI 1 = nI (lft V N 0) := by
  rw [sh1N (by omega), subI (Nat.one_le_two_pow)]
  congr 1
  apply Nat.eq_of_testBit_eq
  intro i
  rw [lft, cmk_bit, Nat.testBit_two_pow_sub_one, pwB]
  simp
theorem lft_z {r : Nat} : lft V N r = 0 ↔ ∀ s, s < N → pwB V N r s = false := by
  constructor
  · intro h s hs
    have h1 : (lft V N r).testBit s = false := by rw [h, Nat.zero_testBit]
    rw [lft, cmk_bit] at h1
    simpa [hs] using h1
  · intro h
    apply Nat.eq_of_testBit_eq
    intro i
    rw [lft, cmk_bit, Nat.zero_testBit]
    by_cases hi : i < N
    · rw [h i hi, Bool.and_false]
    · simp [hi]
/-- the number of rounds -/
def rnd (V : Nat → Nat) (N : Nat) : Nat := mxN (fun s => lvl V N s + 1) N
theorem mxN_ge {f : Nat → Nat} : ∀ {N i : Nat}, i < N → f i ≤ mxN f N
  | 0, i, h => absurd h (Nat.not_lt_zero i)
  | N + 1, i, h => by
    show f i ≤ if f N ≤ mxN f N then mxN f N else f N
    rcases Nat.lt_or_ge i N with h1 | h1
    · have := mxN_ge (f := f) h1
      split <;> omega
    · have : i = N := by omega
      subst this
      split <;> omega
theorem mxN_in {f : Nat → Nat} : ∀ {N : Nat}, mxN f N ≠ 0 → ∃ i, i < N ∧ f i = mxN f N
  | 0, h => absurd rfl h
  | N + 1, h => by
    have e : mxN f (N + 1) = if f N ≤ mxN f N then mxN f N else f N := rfl
    rw [e] at h ⊢
    by_cases q : f N ≤ mxN f N
    · rw [if_pos q] at h ⊢
      obtain ⟨i, h1, h2⟩ := mxN_in h
      exact ⟨i, by omega, h2⟩
    · rw [if_neg q]
      exact ⟨N, Nat.lt_succ_self N, rfl⟩
theorem rnd_le (ha : ¬ cyc V N) : rnd V N ≤ N := mxN_le (fun s hs => lvl_lt ha hs)
theorem lft_rnd (ha : ¬ cyc V N) {r : Nat} (hr : r ≤ N) : lft V N r = 0 ↔ rnd V N ≤ r := by
  rw [lft_z]
  constructor
  · intro h
    refine mxN_le (fun s hs => ?_)
    have h1 := h s hs
    rcases Nat.lt_or_ge (lvl V N s) r with h2 | h2
    · omega
    · have := (lvl_iff (V := V) hr hs).mp h2
      rw [h1] at this
      exact absurd this (by decide)
  · intro h s hs
    rw [Bool.eq_false_iff]
    intro h1
    have h2 := (lvl_iff (V := V) hr hs).mpr h1
    have h3 : lvl V N s + 1 ≤ rnd V N := mxN_ge (f := fun s => lvl V N s + 1) hs
    omega
theorem lft_cyc (ha : cyc V N) {r : Nat} : lft V N r ≠ 0 := by
  obtain ⟨s, q, h1, h2⟩ := ha
  intro h
  have h3 := lft_z.mp h s (wk_lt h2).1
  have h4 := pwB_iff.mpr (long_of_cyc h1 h2 r)
  rw [h3] at h4
  exact absurd h4 (by decide)
theorem e3_rank {bf rk : Nat} (h0 : σ.1 o 8 = nI N) (hN : N ≤ 14) (hr : rk ≠ o) (hrb : rk ≠ bf) (hV : ∀ s, s < N → σ.1 bf s = nI (V s) ∧ V s < 16384) (hVb : ∀ s, s < N → ∀ t, (V s).testBit t = true → t < N) :
    (¬ cyc V N → ∃ σ', f_X3_rank o bf rk σ = some (nI (rnd V N), σ') ∧ (∀ s, s < N → σ'.1 rk s = nI (lvl V N s)) ∧ Fr (sR rk) σ σ') ∧
    (cyc V N → ∃ σ', f_X3_rank o bf rk σ = some (-nI 1, σ') ∧ (∀ s, s < N → σ'.1 rk s = -nI 1) ∧ Fr (sR rk) σ σ') := by
  have step : ∀ (k : Int32 → Int32 → xSt → Option (Int32 × xSt)) (m r : Nat) (τ : xSt), r < N → lft V N r ≠ 0 → Fr (sR rk) σ τ → (∀ s, s < N → pwB V N r s = false → τ.1 rk s = nI (lvl V N s)) →
      ∃ τ', Fr (sR rk) σ τ' ∧ (∀ s, s < N → pwB V N (r + 1) s = false → τ'.1 rk s = nI (lvl V N s)) ∧ f_X3_rank_12 o bf rk k (m + 1) (nI (lft V N r)) (nI r) τ = f_X3_rank_12 o bf rk k m (nI (lft V N (r + 1))) (nI (r + 1)) τ' := by
    intro k m r τ hrN hne hf hrk
    have h0' : τ.1 o 8 = nI N := (hf.1 o 8 (by simp [sR]; omega)).trans h0
    have hV' : ∀ s, s < N → τ.1 bf s = nI (V s) ∧ V s < 16384 := fun s hs => ⟨(hf.1 bf s (by simp [sR]; omega)).trans (hV s hs).1, (hV s hs).2⟩
    have e1 := e3_freeOf (r := r) h0' hN hV' hVb
    obtain ⟨τ', g1, g2, g3⟩ := e3_giveRank (p := fre V N r) (v := nI r) h0' hN hr
    refine ⟨τ', hf.tr g2, fun s hs hp => ?_, ?_⟩
    · rw [g1 s hs]
      rcases Bool.eq_false_or_eq_true (pwB V N r s) with b1 | b1
      · have e : fre V N r s = true := by rw [fre, b1, hp]; rfl
        rw [if_pos e]
        congr 1
        have h1 := (lvl_iff (V := V) (show r ≤ N by omega) hs).mpr b1
        rcases Nat.lt_or_ge r (lvl V N s) with h2 | h2
        · have := (lvl_iff (V := V) (show r + 1 ≤ N by omega) hs).mp h2
          rw [hp] at this
          exact absurd this (by decide)
        · omega
      · have e : ¬ fre V N r s = true := by rw [fre, b1]; simp
        rw [if_neg e]
        exact hrk s hs b1
    · have c0 : ¬ N ≤ r := by omega
      have hl : lft V N r < 16384 := cmk14 hN
      simp (disch := omega) only [lit_nI, nI_leS, nI_ltS, nI_eqS, nI_clS, nI_add, mulI, tI_leS, tI_ltS, tI_eqS, tI_m1, nI_m1, tI_eqn, tI_eqn2, tI_ltn, tI_nle, tI_len, tI_nlt, gi_nI, gi_lit, gz_nI, bnd_some, jn_def, vb_def, if_true, if_false, b2i_0, b2i_1, b2i_t, b2i_f, gb_b2i, gb_n0, gb_n1, bitN, bit0N, sh1N, orI, andI, e7_within, ite_self, n10, n01, Bool.true_eq_false, Bool.false_eq_true, f_X3_rank_12, h0', c0, hne, e1, g3, lft_next]
  have loop : ∀ (k : Int32 → Int32 → xSt → Option (Int32 × xSt)) (d r m : Nat) (τ : xSt), r + d ≤ N → d ≤ m → (∀ i, r ≤ i → i < r + d → lft V N i ≠ 0) → Fr (sR rk) σ τ → (∀ s, s < N → pwB V N r s = false → τ.1 rk s = nI (lvl V N s)) →
      ∃ τ', Fr (sR rk) σ τ' ∧ (∀ s, s < N → pwB V N (r + d) s = false → τ'.1 rk s = nI (lvl V N s)) ∧ f_X3_rank_12 o bf rk k m (nI (lft V N r)) (nI r) τ = f_X3_rank_12 o bf rk k (m - d) (nI (lft V N (r + d))) (nI (r + d)) τ' := by
    intro k d
    induction d with
    | zero => intro r m τ _ _ _ hf hrk; exact ⟨τ, hf, hrk, rfl⟩
    | succ d ih =>
      intro r m τ h1 h2 h3 hf hrk
      obtain ⟨m', rfl⟩ : ∃ m', m = m' + 1 := ⟨m - 1, by omega⟩
      obtain ⟨τ1, g1, g2, g3⟩ := step k m' r τ (by omega) (h3 r (Nat.le_refl r) (by omega)) hf hrk
      obtain ⟨τ2, u1, u2, u3⟩ := ih (r + 1) m' τ1 (by omega) (by omega) (fun i a b => h3 i (by omega) (by omega)) g1 g2
      refine ⟨τ2, u1, ?_, ?_⟩
      · rw [show r + (d + 1) = r + 1 + d by omega]; exact u2
      · rw [g3, u3, show r + (d + 1) = r + 1 + d by omega, show m' + 1 - (d + 1) = m' - d by omega]
  have hFU := FU_big
  have init : ∀ s, s < N → pwB V N 0 s = false → σ.1 rk s = nI (lvl V N s) := by
    intro s hs h
    rw [pwB] at h
    simp [hs] at h
  constructor
  · intro ha
    have hR := rnd_le ha
    rw [f_X3_rank]
    obtain ⟨τ, g1, g2, g3⟩ := loop (fun e7 e8 s9 => if e7 = 0 then (some (e8, s9)) else (bnd (f_X3_giveRank o rk (((1 : Int32) <<< ((s9.1 o 8) &&& 31)) - 1) (-1) s9) (fun r10 s11 => some ((-1), s11)))) (rnd V N) 0 FU σ (by omega) (by omega) (fun i _ hi h => by
      have := (lft_rnd ha (show i ≤ N by omega)).mp h
      omega) Fr.rf init
    rw [Nat.zero_add] at g2 g3
    have hz : lft V N (rnd V N) = 0 := (lft_rnd ha hR).mpr (Nat.le_refl _)
    obtain ⟨m, hm⟩ : ∃ m, FU - rnd V N = m + 1 := ⟨FU - rnd V N - 1, by omega⟩
    refine ⟨τ, ?_, fun s hs => g2 s hs (lft_z.mp hz s hs), g1⟩
    rw [hm, hz] at g3
    rw [vb_def, h0, lit_nI 1, lit_nI 31, andI, lft_0 (V := V) hN]
    refine Eq.trans g3 ?_
    simp (disch := omega) only [lit_nI, nI_leS, nI_ltS, nI_eqS, nI_clS, nI_add, mulI, tI_leS, tI_ltS, tI_eqS, tI_m1, nI_m1, tI_eqn, tI_eqn2, tI_ltn, tI_nle, tI_len, tI_nlt, gi_nI, gi_lit, gz_nI, bnd_some, jn_def, vb_def, if_true, if_false, b2i_0, b2i_1, b2i_t, b2i_f, gb_b2i, gb_n0, gb_n1, bitN, bit0N, sh1N, orI, andI, e7_within, ite_self, n10, n01, Bool.true_eq_false, Bool.false_eq_true, f_X3_rank_12]
  · intro ha
    rw [f_X3_rank]
    obtain ⟨τ, g1, g2, g3⟩ := loop (fun e7 e8 s9 => if e7 = 0 then (some (e8, s9)) else (bnd (f_X3_giveRank o rk (((1 : Int32) <<< ((s9.1 o 8) &&& 31)) - 1) (-1) s9) (fun r10 s11 => some ((-1), s11)))) N 0 FU σ (by omega) (by omega) (fun i _ hi => lft_cyc ha) Fr.rf init
    rw [Nat.zero_add] at g2 g3
    obtain ⟨m, hm⟩ : ∃ m, FU - N = m + 1 := ⟨FU - N - 1, by omega⟩
    have h0' : τ.1 o 8 = nI N := (g1.1 o 8 (by simp [sR]; omega)).trans h0
    have hne := lft_cyc ha (r := N)
    have hl : lft V N N < 16384 := cmk14 hN
    obtain ⟨τ', u1, u2, u3⟩ := e3_giveRank (p := fun s => pwB V N 0 s) (v := -nI 1) h0' hN hr
    have u3' : f_X3_giveRank o rk (nI (lft V N 0)) (-nI 1) τ = some ((), τ') := u3
    refine ⟨τ', ?_, fun s hs => ?_, g1.tr u2⟩
    · rw [vb_def, h0, lit_nI 1, lit_nI 31, andI, lft_0 (V := V) hN]
      rw [hm] at g3
      refine Eq.trans g3 ?_
      simp (disch := omega) only [lit_nI, nI_leS, nI_ltS, nI_eqS, nI_clS, nI_add, mulI, tI_leS, tI_ltS, tI_eqS, tI_m1, nI_m1, tI_eqn, tI_eqn2, tI_ltn, tI_nle, tI_len, tI_nlt, gi_nI, gi_lit, gz_nI, bnd_some, jn_def, vb_def, if_true, if_false, b2i_0, b2i_1, b2i_t, b2i_f, gb_b2i, gb_n0, gb_n1, bitN, bit0N, sh1N, orI, andI, e7_within, ite_self, n10, n01, Bool.true_eq_false, Bool.false_eq_true, f_X3_rank_12, h0', hne, Nat.le_refl]
      have z := lft_0 (V := V) hN
      rw [sh1N (by omega)] at z
      rw [z, u3']
      rfl
    · rw [u1 s hs, if_pos]
      simp [pwB, hs]
end
