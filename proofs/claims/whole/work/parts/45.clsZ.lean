/-! ===== the class's density and zones ===== -/
section
variable {σ : xSt} {n N : Nat} {P ne fi la : Nat → Nat}
def sZ (c k : Nat) : Bool := decide (c = 26) || (decide (c = 27) || (decide (c = 25) && (decide (k = 2) || decide (k = 3))))
theorem CS.fZ {σ' : xSt} (h : CS σ 5 N ne fi la) (hf : Fr sZ σ σ') : CS σ' 5 N ne fi la := by
  obtain ⟨h1, h2, h3⟩ := h
  refine ⟨(hf.1 5 8 rfl).trans h1, h2, fun s hs => ?_⟩
  obtain ⟨⟨a1, a2, a3⟩, a4⟩ := h3 s hs
  exact ⟨⟨(hf.1 (5 + 1) s rfl).trans a1, (hf.1 (5 + 2) s rfl).trans a2, (hf.1 (5 + 3) s rfl).trans a3⟩, a4⟩
theorem xs_ltC (h : CS σ 5 N ne fi la) (c : Nat) : xs ne fi la N c < 64 := msk_lt (fun s hs => (h.2.2 s hs).2.1)
theorem e5_crossingSet (h : CS σ 5 N ne fi la) {c : Nat} (hc : c < 100) : f_X5_crossingSet (nI c) σ = some (nI (xs ne fi la N c), σ) := by
  have hN := h.2.1
  have h0 := h.1
  rw [f_X5_crossingSet, xs]
  refine lpF (fun m (a : Int32 × Int32) => f_X5_crossingSet_4 _ _ m a.1 a.2 σ) (fun i => (nI (msk ne (fun s => wi fi la s c) i), nI i)) N _ (by omega) (fun m i hi => ?_) (fun m => ?_)
  · have c0 : ¬ N ≤ i := by omega
    obtain ⟨⟨h4, h5, h6⟩, h7, h8, h9⟩ := h.2.2 i hi
    have h4' : σ.1 6 i = nI (ne i) := h4
    simp (disch := omega) only [lit_nI, nI_leS, nI_ltS, nI_eqS, nI_clS, nI_add, mulI, tI_leS, tI_ltS, tI_eqS, tI_m1, nI_m1, tI_eqn, tI_eqn2, tI_ltn, tI_nle, tI_len, tI_nlt, gi_nI, gi_lit, gz_nI, bnd_some, jn_def, vb_def, if_true, if_false, b2i_0, b2i_1, b2i_t, b2i_f, gb_b2i, gb_n0, gb_n1, bitN, bit0N, sh1N, orI, andI, e7_within, ite_self, n10, n01, Bool.true_eq_false, Bool.false_eq_true, f_X5_crossingSet_4, h0, c0, h4', e3_covers h hi hc]
    have e : msk ne (fun s => wi fi la s c) (i + 1) = msk ne (fun s => wi fi la s c) i ||| (if wi fi la i c then 2 ^ ne i else 0) := rfl
    rw [e]
    rcases Bool.eq_false_or_eq_true (wi fi la i c) with b1 | b1 <;> simp [b1]
  · simp (disch := omega) only [lit_nI, nI_leS, nI_ltS, nI_eqS, nI_clS, nI_add, mulI, tI_leS, tI_ltS, tI_eqS, tI_m1, nI_m1, tI_eqn, tI_eqn2, tI_ltn, tI_nle, tI_len, tI_nlt, gi_nI, gi_lit, gz_nI, bnd_some, jn_def, vb_def, if_true, if_false, b2i_0, b2i_1, b2i_t, b2i_f, gb_b2i, gb_n0, gb_n1, bitN, bit0N, sh1N, orI, andI, e7_within, ite_self, n10, n01, Bool.true_eq_false, Bool.false_eq_true, f_X5_crossingSet_4, h0, Nat.le_refl]
theorem sub_iff {x y : Nat} (hx : x < 64) (hy : y < 64) : (nI x &&& (nI y ^^^ -nI 1) = nI 0) = (x &&& y = x) := by
  have e : nI x &&& (nI y ^^^ -nI 1) = nI (x ^^^ (x &&& y)) := by
    apply andNot
    intro i
    rw [Nat.testBit_xor, Nat.testBit_and]
    cases x.testBit i <;> cases y.testBit i <;> rfl
  have hlt : x ^^^ (x &&& y) < 2 ^ 6 := Nat.xor_lt_two_pow hx (Nat.lt_of_le_of_lt Nat.and_le_left hx)
  rw [e, nI_eqS (Nat.lt_trans hlt (Nat.le_of_ble_eq_true rfl)) (by omega)]
  apply propext
  constructor
  · intro h
    have h2 : ∀ i, (x &&& y).testBit i = x.testBit i := by
      intro i
      have h3 : (x ^^^ (x &&& y)).testBit i = false := by rw [h, Nat.zero_testBit]
      rw [Nat.testBit_xor] at h3
      cases hq : x.testBit i <;> cases hr : (x &&& y).testBit i <;> simp [hq, hr] at h3 ⊢
    exact Nat.eq_of_testBit_eq h2
  · intro h
    rw [h, Nat.xor_self]
theorem e5_isNewZone {X : Nat → Nat} (hX : ∀ k, k < n → σ.1 26 k = nI (X k) ∧ X k < 64) (hn : n ≤ 8) {c : Nat} (hc : c < n) : f_X5_isNewZone (nI c) (nI n) σ = some (b2i (zoneB X n c), σ) := by
  obtain ⟨x1, x2⟩ := hX c hc
  by_cases q0 : X c = 0
  · simp (disch := omega) only [lit_nI, nI_leS, nI_ltS, nI_eqS, nI_clS, nI_add, mulI, tI_leS, tI_ltS, tI_eqS, tI_m1, nI_m1, tI_eqn, tI_eqn2, tI_ltn, tI_nle, tI_len, tI_nlt, gi_nI, gi_lit, gz_nI, bnd_some, jn_def, vb_def, if_true, if_false, b2i_0, b2i_1, b2i_t, b2i_f, gb_b2i, gb_n0, gb_n1, bitN, bit0N, sh1N, orI, andI, e7_within, ite_self, n10, n01, Bool.true_eq_false, Bool.false_eq_true, f_X5_isNewZone, x1, q0, zoneB]
    simp [b2i_f]
  · obtain ⟨p, hp⟩ : ∃ p : Nat → Bool, (fun k => !(decide (X c &&& X k = X c) && !decide (X k = X c)) && !(decide (X k = X c) && decide (k < c))) = p := ⟨_, rfl⟩
    have hz : zoneB X n c = alB p n := by rw [zoneB, hp]; simp [q0]
    rw [hz]
    have hbody : ∀ (t m : Nat), t < n → f_X5_isNewZone_16 (nI c) (nI n) (nI (X c)) (fun s23 => gb 1 (some (1, s23))) (m + 1) (nI t) σ = if p t then f_X5_isNewZone_16 (nI c) (nI n) (nI (X c)) (fun s23 => gb 1 (some (1, s23))) m (nI (t + 1)) σ else some (nI 0, σ) := by
      intro t m ht
      have c0 : ¬ n ≤ t := by omega
      obtain ⟨y1, y2⟩ := hX t ht
      have hsub := sub_iff x2 y2
      have ec : (X c = X t) = (X t = X c) := propext eq_comm
      have e3 : (t < c) = ¬ c ≤ t := propext (by omega)
      rw [← hp]
      simp (disch := omega) only [lit_nI, nI_leS, nI_ltS, nI_eqS, nI_clS, nI_add, mulI, tI_leS, tI_ltS, tI_eqS, tI_m1, nI_m1, tI_eqn, tI_eqn2, tI_ltn, tI_nle, tI_len, tI_nlt, gi_nI, gi_lit, gz_nI, bnd_some, jn_def, vb_def, if_true, if_false, b2i_0, b2i_1, b2i_t, b2i_f, gb_b2i, gb_n0, gb_n1, bitN, bit0N, sh1N, orI, andI, e7_within, ite_self, n10, n01, Bool.true_eq_false, Bool.false_eq_true, f_X5_isNewZone_16, c0, y1, hsub, ec]
      rcases Classical.propComplete (X c &&& X t = X c) with q1 | q1 <;> rcases Classical.propComplete (X t = X c) with q2 | q2 <;> rcases Classical.propComplete (c ≤ t) with q3 | q3 <;> simp [q1, q2, q3, e3, b2i_t, b2i_f, gb_n0, gb_n1, n10, n01, nI_eqS]
    have loop : f_X5_isNewZone_16 (nI c) (nI n) (nI (X c)) (fun s23 => gb 1 (some (1, s23))) FU (nI 0) σ = some (b2i (alB p n), σ) := by
      have hle := fst_le (fun t => !p t) n
      have hno : ∀ k, k < fst (fun t => !p t) n → p k = true := fun k hk => by
        have := fst_no (fun t => !p t) n k hk
        simpa using this
      have hyes : fst (fun t => !p t) n < n → p (fst (fun t => !p t) n) = false := fun hh => by
        have := fst_yes (fun t => !p t) n hh
        simpa using this
      generalize fst (fun t => !p t) n = e at hle hno hyes
      refine lpE (fun m (x : Int32) => f_X5_isNewZone_16 (nI c) (nI n) (nI (X c)) (fun s23 => gb 1 (some (1, s23))) m x σ) (fun i => nI i) n _ e hle (by omega) (fun m i hi => ?_) (fun m => ?_)
      · rw [hbody i m (by omega), hno i hi]
        rfl
      · rcases Nat.lt_or_ge e n with h1 | h1
        · have ha : alB p n = false := by
            rw [Bool.eq_false_iff]
            intro hh
            have := alB_iff.mp hh e h1
            rw [hyes h1] at this
            exact absurd this (by decide)
          rw [hbody e m h1, hyes h1, ha]
          rfl
        · have ha : alB p n = true := alB_iff.mpr (fun i hi => hno i (by omega))
          have c0 : n ≤ e := h1
          rw [ha]
          simp (disch := omega) only [lit_nI, nI_leS, nI_ltS, nI_eqS, nI_clS, nI_add, mulI, tI_leS, tI_ltS, tI_eqS, tI_m1, nI_m1, tI_eqn, tI_eqn2, tI_ltn, tI_nle, tI_len, tI_nlt, gi_nI, gi_lit, gz_nI, bnd_some, jn_def, vb_def, if_true, if_false, b2i_0, b2i_1, b2i_t, b2i_f, gb_b2i, gb_n0, gb_n1, bitN, bit0N, sh1N, orI, andI, e7_within, ite_self, n10, n01, Bool.true_eq_false, Bool.false_eq_true, f_X5_isNewZone_16, c0]
    simp (disch := omega) only [lit_nI, nI_leS, nI_ltS, nI_eqS, nI_clS, nI_add, mulI, tI_leS, tI_ltS, tI_eqS, tI_m1, nI_m1, tI_eqn, tI_eqn2, tI_ltn, tI_nle, tI_len, tI_nlt, gi_nI, gi_lit, gz_nI, bnd_some, jn_def, vb_def, if_true, if_false, b2i_0, b2i_1, b2i_t, b2i_f, gb_b2i, gb_n0, gb_n1, bitN, bit0N, sh1N, orI, andI, e7_within, ite_self, n10, n01, Bool.true_eq_false, Bool.false_eq_true] at loop
    simp (disch := omega) only [lit_nI, nI_leS, nI_ltS, nI_eqS, nI_clS, nI_add, mulI, tI_leS, tI_ltS, tI_eqS, tI_m1, nI_m1, tI_eqn, tI_eqn2, tI_ltn, tI_nle, tI_len, tI_nlt, gi_nI, gi_lit, gz_nI, bnd_some, jn_def, vb_def, if_true, if_false, b2i_0, b2i_1, b2i_t, b2i_f, gb_b2i, gb_n0, gb_n1, bitN, bit0N, sh1N, orI, andI, e7_within, ite_self, n10, n01, Bool.true_eq_false, Bool.false_eq_true, f_X5_isNewZone, x1, q0]
    exact loop
theorem e5_find (h : CS σ 5 N ne fi la) (hn : n ≤ 8) : ∃ σ', f_X5_find (nI n) σ = some ((), σ') ∧ σ'.1 25 3 = nI (mxN (fun c => pc (xs ne fi la N c) 16) n) ∧ σ'.1 25 2 = nI (cnt (zoneB (xs ne fi la N) n) n) ∧ (∀ c, c < n → zoneB (xs ne fi la N) n c = true → σ'.1 27 (cnt (zoneB (xs ne fi la N) n) c) = nI (xs ne fi la N c)) ∧ Fr sZ σ σ' := by
  have hxl := xs_ltC h
  have hcr : ∀ τ : xSt, Fr sZ σ τ → ∀ c, c < 100 → f_X5_crossingSet (nI c) τ = some (nI (xs ne fi la N c), τ) := fun τ hf c hc => e5_crossingSet (h.fZ hf) hc
  generalize xs ne fi la N = X at *
  have hbc : ∀ (c : Nat) (τ : xSt), f_J6_bitCount_0f7a4 (nI (X c)) τ = some (nI (pc (X c) 16), τ) := fun c τ => eJ_bitCount (Nat.lt_trans (hxl c) (by decide)) τ
  obtain ⟨g, hg⟩ : ∃ g : Nat → Nat, (fun c => pc (X c) 16) = g := ⟨_, rfl⟩
  have hgl : ∀ c, g c ≤ 16 := fun c => by rw [← hg]; exact pc_le _ 16
  have hbg : ∀ (c : Nat) (τ : xSt), f_J6_bitCount_0f7a4 (nI (X c)) τ = some (nI (g c), τ) := fun c τ => by rw [← hg]; exact hbc c τ
  rw [hg]
  have f0 : Fr sZ σ (up2 σ 25 3 (nI 0)) := Fr.up rfl
  obtain ⟨⟨y, τ1⟩, ⟨i1, i2, i3, i4⟩, i5⟩ := lpK (fun kk q (x : Int32 × xSt) => f_X5_find_7 (nI n) kk q x.1 x.2) (fun i y => y.1 = nI i ∧ y.2.1 25 3 = nI (mxN g i) ∧ (∀ k, k < i → y.2.1 26 k = nI (X k)) ∧ Fr sZ σ y.2) n (fun kk y => kk y.2) (by omega) (fun q i y hi hI => by
    obtain ⟨y1, τ⟩ := y
    obtain ⟨i1, i2, i3, i4⟩ := hI
    dsimp only at i1 i2 i3 i4 ⊢
    subst i1
    have m2 := hgl i
    have m3 : mxN g i ≤ 16 := mxN_le (fun j _ => hgl j)
    have e : mxN g (i + 1) = if g i ≤ mxN g i then mxN g i else g i := rfl
    refine ⟨(nI (i + 1), up2 (up2 τ 26 i (nI (X i))) 25 3 (nI (mxN g (i + 1)))), ⟨rfl, up2_same _ _ _ _, fun k hk => ?_, i4.tr ((Fr.up rfl).tr (Fr.up rfl))⟩, fun kk => ?_⟩
    · show (up2 (up2 τ 26 i _) 25 3 _).1 26 k = _
      rw [up2_cell _ _ _ _ (by decide)]
      by_cases eq : k = i
      · subst eq; exact up2_same _ _ _ _
      · rw [up2_place _ _ _ _ eq]; exact i3 k (by omega)
    · have k0 : ¬ nI n ≤ nI i := nI_ge hi (by omega)
      have k1 : (nI i).toNatClampNeg = i := nI_clS (by omega)
      have k2 : (up2 τ 26 i (nI (X i))).1 25 3 = nI (mxN g i) := by rw [up2_cell _ _ _ _ (by decide)]; exact i2
      have k3 : (if nI (mxN g i) < nI (g i) then nI (g i) else nI (mxN g i)) = nI (mxN g (i + 1)) := by
        rw [e]
        by_cases q1 : g i ≤ mxN g i
        · rw [if_pos q1, if_neg (nI_nlt q1 (by omega))]
        · rw [if_neg q1, if_pos (nI_lt (by omega) (by omega))]
      dsimp only
      rw [f_X5_find_7, if_neg k0, hcr τ i4 i (by omega), bnd_some, gi_nI (by omega) (by omega), vb_def, gi_nI (by omega) (by omega), k1, up2_same, hbg, bnd_some, k2, k3, vb_def, nI_1]) (fun q y hI => by
    obtain ⟨y1, τ⟩ := y
    obtain ⟨i1, i2, i3, i4⟩ := hI
    dsimp only at i1 i2 i3 i4 ⊢
    subst i1
    intro kk
    rw [f_X5_find_7, if_pos (Int32.le_refl _)]) (nI 0, up2 σ 25 3 (nI 0)) ⟨rfl, up2_same _ _ _ _, fun k hk => absurd hk (Nat.not_lt_zero k), f0⟩
  dsimp only at i1 i2 i3 i4 i5
  have f1 : Fr sZ τ1 (up2 τ1 25 2 (nI 0)) := Fr.up rfl
  obtain ⟨z, hz⟩ : ∃ z : Nat → Bool, zoneB X n = z := ⟨_, rfl⟩
  rw [hz]
  obtain ⟨⟨y, τ2⟩, ⟨j1, j2, j3, j4, j5⟩, j6⟩ := lpK (fun kk q (x : Int32 × xSt) => f_X5_find_56 (nI n) kk q x.1 x.2) (fun i y => y.1 = nI i ∧ y.2.1 25 2 = nI (cnt z i) ∧ (∀ c, c < i → z c = true → y.2.1 27 (cnt z c) = nI (X c)) ∧ (y.2.1 25 3 = nI (mxN g n) ∧ ∀ k, k < n → y.2.1 26 k = nI (X k)) ∧ Fr sZ σ y.2) n (fun kk y => kk y.2) (by omega) (fun q i y hi hI => by
    obtain ⟨y1, τ⟩ := y
    obtain ⟨i1, i2, i3, ⟨i4, i5⟩, i6⟩ := hI
    dsimp only at i1 i2 i3 i4 i5 i6 ⊢
    subst i1
    have c0 : ¬ n ≤ i := by omega
    have hcl := cnt_le z i
    have nz := e5_isNewZone (X := X) (fun k hk => ⟨i5 k hk, hxl k⟩) hn hi
    rw [hz] at nz
    have r1 := i5 i hi
    have e : cnt z (i + 1) = cnt z i + (if z i then 1 else 0) := rfl
    rcases Bool.eq_false_or_eq_true (z i) with b1 | b1
    · rw [e, b1]
      refine ⟨(nI (i + 1), up2 (up2 τ 27 (cnt z i) (nI (X i))) 25 2 (nI (cnt z i + 1))), ⟨rfl, up2_same _ _ _ _, fun c hc hzc => ?_, ⟨?_, fun k hk => ?_⟩, i6.tr ((Fr.up rfl).tr (Fr.up rfl))⟩, fun kk => ?_⟩
      · show (up2 (up2 τ 27 _ _) 25 2 _).1 27 _ = _
        rw [up2_cell _ _ _ _ (by decide)]
        by_cases eq : c = i
        · subst eq; exact up2_same _ _ _ _
        · have hlt := cnt_lt (p := z) (show c < i by omega) hzc
          rw [up2_place _ _ _ _ (by omega)]; exact i3 c (by omega) hzc
      · show (up2 (up2 τ 27 _ _) 25 2 _).1 25 3 = _
        rw [up2_place _ _ _ _ (by decide), up2_cell _ _ _ _ (by decide)]; exact i4
      · show (up2 (up2 τ 27 _ _) 25 2 _).1 26 k = _
        rw [up2_cell _ _ _ _ (by decide), up2_cell _ _ _ _ (by decide)]; exact i5 k hk
      · simp (disch := omega) only [lit_nI, nI_leS, nI_ltS, nI_eqS, nI_clS, nI_add, mulI, tI_leS, tI_ltS, tI_eqS, tI_m1, nI_m1, tI_eqn, tI_eqn2, tI_ltn, tI_nle, tI_len, tI_nlt, gi_nI, gi_lit, gz_nI, bnd_some, jn_def, vb_def, if_true, if_false, b2i_0, b2i_1, b2i_t, b2i_f, gb_b2i, gb_n0, gb_n1, bitN, bit0N, sh1N, orI, andI, e7_within, ite_self, n10, n01, Bool.true_eq_false, Bool.false_eq_true, f_X5_find_56, c0, nz, b1, i2, r1, up2_cell]
    · rw [e, b1]
      refine ⟨(nI (i + 1), τ), ⟨rfl, i2, fun c hc hzc => ?_, ⟨i4, i5⟩, i6⟩, fun kk => ?_⟩
      · by_cases eq : c = i
        · subst eq; rw [b1] at hzc; exact absurd hzc (by decide)
        · exact i3 c (by omega) hzc
      · simp (disch := omega) only [lit_nI, nI_leS, nI_ltS, nI_eqS, nI_clS, nI_add, mulI, tI_leS, tI_ltS, tI_eqS, tI_m1, nI_m1, tI_eqn, tI_eqn2, tI_ltn, tI_nle, tI_len, tI_nlt, gi_nI, gi_lit, gz_nI, bnd_some, jn_def, vb_def, if_true, if_false, b2i_0, b2i_1, b2i_t, b2i_f, gb_b2i, gb_n0, gb_n1, bitN, bit0N, sh1N, orI, andI, e7_within, ite_self, n10, n01, Bool.true_eq_false, Bool.false_eq_true, f_X5_find_56, c0, nz, b1]) (fun q y hI => by
    obtain ⟨y1, τ⟩ := y
    obtain ⟨i1, i2, i3, i4, i6⟩ := hI
    dsimp only at i1 i2 i3 i4 i6 ⊢
    subst i1
    intro kk
    simp (disch := omega) only [lit_nI, nI_leS, nI_ltS, nI_eqS, nI_clS, nI_add, mulI, tI_leS, tI_ltS, tI_eqS, tI_m1, nI_m1, tI_eqn, tI_eqn2, tI_ltn, tI_nle, tI_len, tI_nlt, gi_nI, gi_lit, gz_nI, bnd_some, jn_def, vb_def, if_true, if_false, b2i_0, b2i_1, b2i_t, b2i_f, gb_b2i, gb_n0, gb_n1, bitN, bit0N, sh1N, orI, andI, e7_within, ite_self, n10, n01, Bool.true_eq_false, Bool.false_eq_true, f_X5_find_56, Nat.le_refl]) (nI 0, up2 τ1 25 2 (nI 0)) ⟨rfl, up2_same _ _ _ _, fun c hc => absurd hc (Nat.not_lt_zero c), ⟨by
      show (up2 τ1 25 2 _).1 25 3 = _
      rw [up2_place _ _ _ _ (by decide)]; exact i2, fun k hk => by
      show (up2 τ1 25 2 _).1 26 k = _
      rw [up2_cell _ _ _ _ (by decide)]; exact i3 k hk⟩, i4.tr f1⟩
  dsimp only at j1 j2 j3 j4 j5 j6
  refine ⟨τ2, ?_, j4.1, j2, j3, j5⟩
  simp (disch := omega) only [lit_nI, nI_leS, nI_ltS, nI_eqS, nI_clS, nI_add, mulI, tI_leS, tI_ltS, tI_eqS, tI_m1, nI_m1, tI_eqn, tI_eqn2, tI_ltn, tI_nle, tI_len, tI_nlt, gi_nI, gi_lit, gz_nI, bnd_some, jn_def, vb_def, if_true, if_false, b2i_0, b2i_1, b2i_t, b2i_f, gb_b2i, gb_n0, gb_n1, bitN, bit0N, sh1N, orI, andI, e7_within, ite_self, n10, n01, Bool.true_eq_false, Bool.false_eq_true, f_X5_find, i5, j6]
end
