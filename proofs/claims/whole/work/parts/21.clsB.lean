section
variable {σ : xSt} {n N o : Nat} {P T ne fi la B F V : Nat → Nat}
theorem e6_lowest {m : Nat} (hm : m < 16384) (σ : xSt) : f_X6_lowest (nI m) σ = some (lowB m 31, σ) := by
  rw [f_X6_lowest]
  have hl := fst_le (fun k => m.testBit k) 31
  refine lpE (fun n (a : Int32) => f_X6_lowest_2 (nI m) _ n a σ) (fun i => nI i) 31 _ (fst (fun k => m.testBit k) 31) hl (by omega) (fun n i hi => ?_) (fun n => ?_)
  · have h0 : ¬ 31 ≤ i := by omega
    have h1 : m.testBit i = false := fst_no _ _ _ hi
    simp (disch := omega) only [lit_nI, nI_leS, nI_ltS, nI_eqS, nI_clS, nI_add, mulI, tI_leS, tI_ltS, tI_eqS, tI_m1, nI_m1, tI_eqn, tI_eqn2, tI_ltn, tI_nle, tI_len, tI_nlt, gi_nI, gi_lit, gz_nI, bnd_some, jn_def, vb_def, if_true, if_false, b2i_0, b2i_1, b2i_t, b2i_f, gb_b2i, gb_n0, gb_n1, bitN, bit0N, sh1N, orI, andI, e7_within, ite_self, n10, n01, Bool.true_eq_false, Bool.false_eq_true, f_X6_lowest_2, h0, h1]
  · generalize he : fst (fun k => m.testBit k) 31 = e at hl
    rcases Nat.lt_or_ge e 31 with h | h
    · have hy : m.testBit e = true := by
        have := fst_yes (fun k => m.testBit k) 31 (by omega)
        rwa [he] at this
      have h0 : ¬ 31 ≤ e := by omega
      simp (disch := omega) only [lit_nI, nI_leS, nI_ltS, nI_eqS, nI_clS, nI_add, mulI, tI_leS, tI_ltS, tI_eqS, tI_m1, nI_m1, tI_eqn, tI_eqn2, tI_ltn, tI_nle, tI_len, tI_nlt, gi_nI, gi_lit, gz_nI, bnd_some, jn_def, vb_def, if_true, if_false, b2i_0, b2i_1, b2i_t, b2i_f, gb_b2i, gb_n0, gb_n1, bitN, bit0N, sh1N, orI, andI, e7_within, ite_self, n10, n01, Bool.true_eq_false, Bool.false_eq_true, f_X6_lowest_2, h0, hy, lowB, he, h]
    · have h0 : 31 ≤ e := h
      have h1 : ¬ e < 31 := by omega
      simp (disch := omega) only [lit_nI, nI_leS, nI_ltS, nI_eqS, nI_clS, nI_add, mulI, tI_leS, tI_ltS, tI_eqS, tI_m1, nI_m1, tI_eqn, tI_eqn2, tI_ltn, tI_nle, tI_len, tI_nlt, gi_nI, gi_lit, gz_nI, bnd_some, jn_def, vb_def, if_true, if_false, b2i_0, b2i_1, b2i_t, b2i_f, gb_b2i, gb_n0, gb_n1, bitN, bit0N, sh1N, orI, andI, e7_within, ite_self, n10, n01, Bool.true_eq_false, Bool.false_eq_true, f_X6_lowest_2, h0, lowB, he, h1]
/-- a segment's track goes with those ahead of it -/
theorem e1_fitsBefore (h : CS σ 5 N ne fi la) (hB : CB σ 5 N B) {s : Nat} (hs : s < N) (hT : ∀ t, t ≤ s → σ.1 29 t = tI (T t) ∧ T t ≤ 14) : f_X1_fitsBefore (nI s) σ = some (b2i (alB (fun t => fine T ne fi la B t s) s), σ) := by
  have hN := h.2.1
  obtain ⟨s1, s2⟩ := hT s (Nat.le_refl s)
  rw [f_X1_fitsBefore]
  generalize hq : fst (fun t => !fine T ne fi la B t s) s = q
  have hl := fst_le (fun t => !fine T ne fi la B t s) s
  rw [hq] at hl
  have hbody : ∀ (t m : Nat), t < s → f_X1_fitsBefore_2 (nI s) (fun s55 => gb 1 (some (1, s55))) (m + 1) (nI t) σ = if fine T ne fi la B t s then f_X1_fitsBefore_2 (nI s) (fun s55 => gb 1 (some (1, s55))) m (nI (t + 1)) σ else some (nI 0, σ) := by
    intro t m ht
    have c0 : ¬ s ≤ t := by omega
    obtain ⟨t1, t2⟩ := hT t (by omega)
    simp (disch := omega) only [lit_nI, nI_leS, nI_ltS, nI_eqS, nI_clS, nI_add, mulI, tI_leS, tI_ltS, tI_eqS, tI_m1, nI_m1, tI_eqn, tI_eqn2, tI_ltn, tI_nle, tI_len, tI_nlt, gi_nI, gi_lit, gz_nI, bnd_some, jn_def, vb_def, if_true, if_false, b2i_0, b2i_1, b2i_t, b2i_f, gb_b2i, gb_n0, gb_n1, bitN, bit0N, sh1N, orI, andI, e7_within, ite_self, n10, n01, Bool.true_eq_false, Bool.false_eq_true, f_X1_fitsBefore_2, c0, s1, t1, e3_overlap h (show t < N by omega) hs, e3_isAbove hN hB hs (show t < N by omega), e3_isAbove hN hB (show t < N by omega) hs, fine]
    have e2 : (T t < T s) = ¬ T s ≤ T t := propext (by omega)
    have e3 : (T s < T t) = ¬ T t ≤ T s := propext (by omega)
    rcases Classical.propComplete (T t = T s) with q1 | q1 <;> rcases Bool.eq_false_or_eq_true (met ne fi la t s) with b1 | b1 <;> rcases Bool.eq_false_or_eq_true ((B t).testBit s) with b2 | b2 <;> rcases Bool.eq_false_or_eq_true ((B s).testBit t) with b3 | b3 <;> rcases Classical.propComplete (T s ≤ T t) with q2 | q2 <;> rcases Classical.propComplete (T t ≤ T s) with q3 | q3 <;> simp [e2, e3, q1, q2, q3, b1, b2, b3, b2i_t, b2i_f, gb_n0, gb_n1, n10, nI_eqS]
  refine lpE (fun m (a : Int32) => f_X1_fitsBefore_2 (nI s) _ m a σ) (fun i => nI i) s _ q hl (by omega) (fun m i hi => ?_) (fun m => ?_)
  · try dsimp only
    have hf : fine T ne fi la B i s = true := by
      have := fst_no (fun t => !fine T ne fi la B t s) s i (by omega)
      simpa using this
    rw [hbody i m (by omega), if_pos hf]
  · try dsimp only
    rcases Nat.lt_or_ge q s with h1 | h1
    · have hf : fine T ne fi la B q s = false := by
        have := fst_yes (fun t => !fine T ne fi la B t s) s (by omega)
        rw [hq] at this
        simpa using this
      have ha : alB (fun t => fine T ne fi la B t s) s = false := by
        rw [Bool.eq_false_iff]
        intro hc
        rw [alB_iff] at hc
        rw [hc q h1] at hf
        exact absurd hf (by decide)
      rw [hbody q m h1, hf, ha]
      rfl
    · have ha : alB (fun t => fine T ne fi la B t s) s = true := by
        rw [alB_iff]
        intro t ht
        have := fst_no (fun t => !fine T ne fi la B t s) s t (by omega)
        simpa using this
      have c0 : s ≤ q := h1
      simp (disch := omega) only [lit_nI, nI_leS, nI_ltS, nI_eqS, nI_clS, nI_add, mulI, tI_leS, tI_ltS, tI_eqS, tI_m1, nI_m1, tI_eqn, tI_eqn2, tI_ltn, tI_nle, tI_len, tI_nlt, gi_nI, gi_lit, gz_nI, bnd_some, jn_def, vb_def, if_true, if_false, b2i_0, b2i_1, b2i_t, b2i_f, gb_b2i, gb_n0, gb_n1, bitN, bit0N, sh1N, orI, andI, e7_within, ite_self, n10, n01, Bool.true_eq_false, Bool.false_eq_true, f_X1_fitsBefore_2, c0, ha]
theorem e1_horizontalNets (h : CS σ 5 N ne fi la) (hT : ∀ s, s < N → σ.1 29 s = tI (T s) ∧ T s ≤ 14) {r c : Nat} (hr : r < 100) (hc : c < 100) : f_X1_horizontalNets (nI r) (nI c) σ = some (nI (msk ne (fun s => decide (T s = r + 1) && wi fi la s c) N), σ) := by
  have hN := h.2.1
  have h0 := h.1
  rw [f_X1_horizontalNets]
  refine lpF (fun m (a : Int32 × Int32) => f_X1_horizontalNets_6 _ _ _ m a.1 a.2 σ) (fun i => (nI (msk ne (fun s => decide (T s = r + 1) && wi fi la s c) i), nI i)) N _ (by omega) (fun m i hi => ?_) (fun m => ?_)
  · have c0 : ¬ N ≤ i := by omega
    obtain ⟨f1, f2⟩ := hT i hi
    obtain ⟨⟨h4, h5, h6⟩, h7, h8, h9⟩ := h.2.2 i hi
    have h4' : σ.1 6 i = nI (ne i) := h4
    simp (disch := omega) only [lit_nI, nI_leS, nI_ltS, nI_eqS, nI_clS, nI_add, mulI, tI_leS, tI_ltS, tI_eqS, tI_m1, nI_m1, tI_eqn, tI_eqn2, tI_ltn, tI_nle, tI_len, tI_nlt, gi_nI, gi_lit, gz_nI, bnd_some, jn_def, vb_def, if_true, if_false, b2i_0, b2i_1, b2i_t, b2i_f, gb_b2i, gb_n0, gb_n1, bitN, bit0N, sh1N, orI, andI, e7_within, ite_self, n10, n01, Bool.true_eq_false, Bool.false_eq_true, f_X1_horizontalNets_6, h0, c0, f1, h4', e3_covers h hi hc]
    have e : msk ne (fun s => decide (T s = r + 1) && wi fi la s c) (i + 1) = msk ne (fun s => decide (T s = r + 1) && wi fi la s c) i ||| (if (decide (T i = r + 1) && wi fi la i c) then 2 ^ ne i else 0) := rfl
    rw [e]
    by_cases q : T i = r + 1 <;> cases wi fi la i c <;> simp [q]
  · simp (disch := omega) only [lit_nI, nI_leS, nI_ltS, nI_eqS, nI_clS, nI_add, mulI, tI_leS, tI_ltS, tI_eqS, tI_m1, nI_m1, tI_eqn, tI_eqn2, tI_ltn, tI_nle, tI_len, tI_nlt, gi_nI, gi_lit, gz_nI, bnd_some, jn_def, vb_def, if_true, if_false, b2i_0, b2i_1, b2i_t, b2i_f, gb_b2i, gb_n0, gb_n1, bitN, bit0N, sh1N, orI, andI, e7_within, ite_self, n10, n01, Bool.true_eq_false, Bool.false_eq_true, f_X1_horizontalNets_6, h0, Nat.le_refl]
theorem e1_wireFromTop (h : CS σ 5 N ne fi la) (hA : CA σ 5 n N P ne fi la) (hn : n ≤ 8) (hT : ∀ s, s < N → σ.1 29 s = tI (T s) ∧ T s ≤ 14) {w r c : Nat} (hw : w < 6) (hr : r < 100) (hc : c < n) : f_X1_wireFromTop (nI w) (nI r) (nI c) σ = some (b2i (exB (fun s => (decide (ne s = w) && tch P ne fi la s c) && decide (r + 1 ≤ T s)) N), σ) := by
  have hN := h.2.1
  have h0 := h.1
  rw [f_X1_wireFromTop]
  obtain ⟨p, hp⟩ : ∃ p : Nat → Bool, (fun s => (decide (ne s = w) && tch P ne fi la s c) && decide (r + 1 ≤ T s)) = p := ⟨_, rfl⟩
  rw [hp]
  have hl := fst_le p N
  have hbody : ∀ (t m : Nat), t < N → f_X1_wireFromTop_3 (nI w) (nI r) (nI c) (fun s6 => gb 0 (some (0, s6))) (m + 1) (nI t) σ = if p t then some (nI 1, σ) else f_X1_wireFromTop_3 (nI w) (nI r) (nI c) (fun s6 => gb 0 (some (0, s6))) m (nI (t + 1)) σ := by
    intro t m ht
    have c0 : ¬ N ≤ t := by omega
    obtain ⟨t1, t2⟩ := hT t ht
    rw [← hp]
    simp (disch := omega) only [lit_nI, nI_leS, nI_ltS, nI_eqS, nI_clS, nI_add, mulI, tI_leS, tI_ltS, tI_eqS, tI_m1, nI_m1, tI_eqn, tI_eqn2, tI_ltn, tI_nle, tI_len, tI_nlt, gi_nI, gi_lit, gz_nI, bnd_some, jn_def, vb_def, if_true, if_false, b2i_0, b2i_1, b2i_t, b2i_f, gb_b2i, gb_n0, gb_n1, bitN, bit0N, sh1N, orI, andI, e7_within, ite_self, n10, n01, Bool.true_eq_false, Bool.false_eq_true, f_X1_wireFromTop_3, h0, c0, t1, e3_isJoined h hA hn ht hw hc]
    have e2 : (r + 1 ≤ T t) = ¬ T t < r + 1 := propext (by omega)
    rcases Classical.propComplete (ne t = w) with q1 | q1 <;> rcases Bool.eq_false_or_eq_true (tch P ne fi la t c) with b1 | b1 <;> rcases Classical.propComplete (T t < r + 1) with q2 | q2 <;> simp [e2, q1, q2, b1, b2i_t, b2i_f, gb_n0, gb_n1, n10, n01, nI_eqS]
  refine lpE (fun m (a : Int32) => f_X1_wireFromTop_3 _ _ _ _ m a σ) (fun i => nI i) N _ (fst p N) hl (by omega) (fun m i hi => ?_) (fun m => ?_)
  · try dsimp only
    rw [hbody i m (by omega), fst_no p N i hi]
    rfl
  · try dsimp only
    rcases Nat.lt_or_ge (fst p N) N with h1 | h1
    · have ha : exB p N = true := exB_iff.mpr ⟨_, h1, fst_yes p N h1⟩
      rw [hbody _ m h1, fst_yes p N h1, ha]
      rfl
    · have ha : exB p N = false := by
        rw [Bool.eq_false_iff]
        intro hx
        obtain ⟨i, h2, h3⟩ := exB_iff.mp hx
        rw [fst_no p N i (by omega)] at h3
        exact absurd h3 (by decide)
      have c0 : N ≤ fst p N := h1
      simp (disch := omega) only [lit_nI, nI_leS, nI_ltS, nI_eqS, nI_clS, nI_add, mulI, tI_leS, tI_ltS, tI_eqS, tI_m1, nI_m1, tI_eqn, tI_eqn2, tI_ltn, tI_nle, tI_len, tI_nlt, gi_nI, gi_lit, gz_nI, bnd_some, jn_def, vb_def, if_true, if_false, b2i_0, b2i_1, b2i_t, b2i_f, gb_b2i, gb_n0, gb_n1, bitN, bit0N, sh1N, orI, andI, e7_within, ite_self, n10, n01, Bool.true_eq_false, Bool.false_eq_true, f_X1_wireFromTop_3, h0, c0, ha]
theorem e1_wireFromBottom (h : CS σ 5 N ne fi la) (hA : CA σ 5 n N P ne fi la) (hn : n ≤ 8) (hT : ∀ s, s < N → σ.1 29 s = tI (T s) ∧ T s ≤ 14) {w r c : Nat} (hw : w < 6) (hr : r < 100) (hc : c < n) : f_X1_wireFromBottom (nI w) (nI r) (nI c) σ = some (b2i (exB (fun s => (!decide (T s = 0) && decide (T s ≤ r + 1)) && (decide (ne s = w) && tch P ne fi la s c)) N), σ) := by
  have hN := h.2.1
  have h0 := h.1
  rw [f_X1_wireFromBottom]
  obtain ⟨p, hp⟩ : ∃ p : Nat → Bool, (fun s => (!decide (T s = 0) && decide (T s ≤ r + 1)) && (decide (ne s = w) && tch P ne fi la s c)) = p := ⟨_, rfl⟩
  rw [hp]
  have hl := fst_le p N
  have hbody : ∀ (t m : Nat), t < N → f_X1_wireFromBottom_3 (nI w) (nI r) (nI c) (fun s6 => gb 0 (some (0, s6))) (m + 1) (nI t) σ = if p t then some (nI 1, σ) else f_X1_wireFromBottom_3 (nI w) (nI r) (nI c) (fun s6 => gb 0 (some (0, s6))) m (nI (t + 1)) σ := by
    intro t m ht
    have c0 : ¬ N ≤ t := by omega
    obtain ⟨t1, t2⟩ := hT t ht
    rw [← hp]
    simp (disch := omega) only [lit_nI, nI_leS, nI_ltS, nI_eqS, nI_clS, nI_add, mulI, tI_leS, tI_ltS, tI_eqS, tI_m1, nI_m1, tI_eqn, tI_eqn2, tI_ltn, tI_nle, tI_len, tI_nlt, gi_nI, gi_lit, gz_nI, bnd_some, jn_def, vb_def, if_true, if_false, b2i_0, b2i_1, b2i_t, b2i_f, gb_b2i, gb_n0, gb_n1, bitN, bit0N, sh1N, orI, andI, e7_within, ite_self, n10, n01, Bool.true_eq_false, Bool.false_eq_true, f_X1_wireFromBottom_3, h0, c0, t1, e3_isJoined h hA hn ht hw hc]
    have e2 : (T t ≤ r + 1) = ¬ r + 1 < T t := propext (by omega)
    rcases Classical.propComplete (ne t = w) with q1 | q1 <;> rcases Bool.eq_false_or_eq_true (tch P ne fi la t c) with b1 | b1 <;> rcases Classical.propComplete (r + 1 < T t) with q2 | q2 <;> rcases Classical.propComplete (T t = 0) with q3 | q3 <;> simp [e2, q1, q2, q3, b1, b2i_t, b2i_f, gb_n0, gb_n1, n10, n01, nI_eqS]
  refine lpE (fun m (a : Int32) => f_X1_wireFromBottom_3 _ _ _ _ m a σ) (fun i => nI i) N _ (fst p N) hl (by omega) (fun m i hi => ?_) (fun m => ?_)
  · try dsimp only
    rw [hbody i m (by omega), fst_no p N i hi]
    rfl
  · try dsimp only
    rcases Nat.lt_or_ge (fst p N) N with h1 | h1
    · have ha : exB p N = true := exB_iff.mpr ⟨_, h1, fst_yes p N h1⟩
      rw [hbody _ m h1, fst_yes p N h1, ha]
      rfl
    · have ha : exB p N = false := by
        rw [Bool.eq_false_iff]
        intro hx
        obtain ⟨i, h2, h3⟩ := exB_iff.mp hx
        rw [fst_no p N i (by omega)] at h3
        exact absurd h3 (by decide)
      have c0 : N ≤ fst p N := h1
      simp (disch := omega) only [lit_nI, nI_leS, nI_ltS, nI_eqS, nI_clS, nI_add, mulI, tI_leS, tI_ltS, tI_eqS, tI_m1, nI_m1, tI_eqn, tI_eqn2, tI_ltn, tI_nle, tI_len, tI_nlt, gi_nI, gi_lit, gz_nI, bnd_some, jn_def, vb_def, if_true, if_false, b2i_0, b2i_1, b2i_t, b2i_f, gb_b2i, gb_n0, gb_n1, bitN, bit0N, sh1N, orI, andI, e7_within, ite_self, n10, n01, Bool.true_eq_false, Bool.false_eq_true, f_X1_wireFromBottom_3, h0, c0, ha]
theorem tI_sh {w : Nat} (hw : w < 30) : nI 1 <<< (tI (w + 1) &&& nI 31) = nI (2 ^ w) := by rw [tI_succ]; exact sh1 (by omega)
theorem tb_pow (a i : Nat) : (2 ^ a).testBit i = decide (a = i) := by
  by_cases h : a = i
  · subst h; simp
  · simp [Nat.testBit_two_pow_of_ne h, h]
theorem e1_verticalNets (hP : CP σ n P) (h : CS σ 5 N ne fi la) (hA : CA σ 5 n N P ne fi la) (hT : ∀ s, s < N → σ.1 29 s = tI (T s) ∧ T s ≤ 14) {r c : Nat} (hr : r < 100) (hc : c < n) : f_X1_verticalNets (nI r) (nI c) σ = some (nI (vns P T ne fi la N r c), σ) := by
  have hn := hP.2.1
  have p1 := (hP.2.2 (2 * c) (by omega)).2
  have p2 := (hP.2.2 (2 * c + 1) (by omega)).2
  have g0 := e0_netOf hP hc (show 0 < 2 by omega)
  have g1 := e0_netOf hP hc (show 1 < 2 by omega)
  rw [Nat.add_zero] at g0
  have key : ∀ i, (vns P T ne fi la N r c).testBit i = true ↔ (P (2 * c) = i + 1 ∧ P (2 * c + 1) = i + 1) ∨ ∃ s, s < N ∧ vpr P T ne fi la r c s = true ∧ ne s = i := by
    intro i
    rw [vns, Nat.testBit_or, Bool.or_eq_true, msk_bit, vbs]
    refine or_congr ?_ Iff.rfl
    by_cases q : P (2 * c) ≠ 0 ∧ P (2 * c) = P (2 * c + 1)
    · rw [if_pos q, tb_pow, decide_eq_true_eq]; omega
    · rw [if_neg q, Nat.zero_testBit]
      constructor
      · intro h; exact absurd h (by decide)
      · rintro ⟨q1, q2⟩; exact absurd ⟨by omega, by omega⟩ q
  have tp : ∀ (w i : Nat), w < 6 → P (2 * c) = w + 1 → (exB (fun s => (decide (ne s = w) && tch P ne fi la s c) && decide (r + 1 ≤ T s)) N = true ↔ ∃ s, s < N ∧ (tch P ne fi la s c = true ∧ r + 1 ≤ T s) ∧ ne s = w) := by
    intro w i hw hpw
    rw [exB_iff]
    constructor
    · rintro ⟨s, h1, h2⟩
      simp only [Bool.and_eq_true, decide_eq_true_eq] at h2
      exact ⟨s, h1, ⟨h2.1.2, h2.2⟩, h2.1.1⟩
    · rintro ⟨s, h1, ⟨h2, h3⟩, h4⟩
      exact ⟨s, h1, by simp [h2, h3, h4]⟩
  have bp : ∀ (w : Nat), (exB (fun s => (!decide (T s = 0) && decide (T s ≤ r + 1)) && (decide (ne s = w) && tch P ne fi la s c)) N = true ↔ ∃ s, s < N ∧ (tch P ne fi la s c = true ∧ T s ≠ 0 ∧ T s ≤ r + 1) ∧ ne s = w) := by
    intro w
    rw [exB_iff]
    constructor
    · rintro ⟨s, h1, h2⟩
      simp only [Bool.and_eq_true, decide_eq_true_eq, Bool.not_eq_true', decide_eq_false_iff_not] at h2
      exact ⟨s, h1, ⟨h2.2.2, h2.1.1, h2.1.2⟩, h2.2.1⟩
    · rintro ⟨s, h1, ⟨h2, h3, h4⟩, h5⟩
      exact ⟨s, h1, by simp [h2, h3, h4, h5]⟩
  have vp : ∀ s, vpr P T ne fi la r c s = true ↔ (T s ≠ 0 ∧ tch P ne fi la s c = true) ∧ ((ne s + 1 = P (2 * c) ∧ r + 1 ≤ T s) ∨ (ne s + 1 = P (2 * c + 1) ∧ T s ≤ r + 1)) := by
    intro s
    simp only [vpr, Bool.and_eq_true, Bool.or_eq_true, decide_eq_true_eq, Bool.not_eq_true', decide_eq_false_iff_not, ne_eq]
  suffices hs : ∀ (tb bb : Bool), (P (2 * c) ≠ 0 → tb = (decide (P (2 * c) = P (2 * c + 1)) || exB (fun s => (decide (ne s = P (2 * c) - 1) && tch P ne fi la s c) && decide (r + 1 ≤ T s)) N)) → (P (2 * c + 1) ≠ 0 → bb = exB (fun s => (!decide (T s = 0) && decide (T s ≤ r + 1)) && (decide (ne s = P (2 * c + 1) - 1) && tch P ne fi la s c)) N) →
      ((if P (2 * c) ≠ 0 ∧ tb = true then 2 ^ (P (2 * c) - 1) else 0) ||| (if P (2 * c + 1) ≠ 0 ∧ bb = true then 2 ^ (P (2 * c + 1) - 1) else 0)) = vns P T ne fi la N r c by
    rw [← hs (decide (P (2 * c) = P (2 * c + 1)) || exB (fun s => (decide (ne s = P (2 * c) - 1) && tch P ne fi la s c) && decide (r + 1 ≤ T s)) N) (exB (fun s => (!decide (T s = 0) && decide (T s ≤ r + 1)) && (decide (ne s = P (2 * c + 1) - 1) && tch P ne fi la s c)) N) (fun _ => rfl) (fun _ => rfl)]
    by_cases q1 : P (2 * c) = 0
    · by_cases q2 : P (2 * c + 1) = 0
      · simp (disch := omega) only [lit_nI, nI_leS, nI_ltS, nI_eqS, nI_clS, nI_add, mulI, tI_leS, tI_ltS, tI_eqS, tI_m1, nI_m1, tI_eqn, tI_eqn2, tI_ltn, tI_nle, tI_len, tI_nlt, gi_nI, gi_lit, gz_nI, bnd_some, jn_def, vb_def, if_true, if_false, b2i_0, b2i_1, b2i_t, b2i_f, gb_b2i, gb_n0, gb_n1, bitN, bit0N, sh1N, orI, andI, e7_within, ite_self, n10, n01, Bool.true_eq_false, Bool.false_eq_true, f_X1_verticalNets, g0, g1, q1, q2]
        simp
      · obtain ⟨w2, hw2⟩ : ∃ w, P (2 * c + 1) = w + 1 := ⟨P (2 * c + 1) - 1, by omega⟩
        have b1 := e1_wireFromBottom h hA hn hT (show w2 < 6 by omega) hr hc
        simp (disch := omega) only [lit_nI, nI_leS, nI_ltS, nI_eqS, nI_clS, nI_add, mulI, tI_leS, tI_ltS, tI_eqS, tI_m1, nI_m1, tI_eqn, tI_eqn2, tI_ltn, tI_nle, tI_len, tI_nlt, gi_nI, gi_lit, gz_nI, bnd_some, jn_def, vb_def, if_true, if_false, b2i_0, b2i_1, b2i_t, b2i_f, gb_b2i, gb_n0, gb_n1, bitN, bit0N, sh1N, orI, andI, e7_within, ite_self, n10, n01, Bool.true_eq_false, Bool.false_eq_true, f_X1_verticalNets, g0, g1, q1, hw2, tI_succ, b1]
        simp only [Nat.add_sub_cancel]
        rcases Bool.eq_false_or_eq_true (exB (fun s => (!decide (T s = 0) && decide (T s ≤ r + 1)) && (decide (ne s = w2) && tch P ne fi la s c)) N) with b2 | b2 <;> simp [b2]
    · obtain ⟨w1, hw1⟩ : ∃ w, P (2 * c) = w + 1 := ⟨P (2 * c) - 1, by omega⟩
      have a1 := e1_wireFromTop h hA hn hT (show w1 < 6 by omega) hr hc
      by_cases q2 : P (2 * c + 1) = 0
      · simp (disch := omega) only [lit_nI, nI_leS, nI_ltS, nI_eqS, nI_clS, nI_add, mulI, tI_leS, tI_ltS, tI_eqS, tI_m1, nI_m1, tI_eqn, tI_eqn2, tI_ltn, tI_nle, tI_len, tI_nlt, gi_nI, gi_lit, gz_nI, bnd_some, jn_def, vb_def, if_true, if_false, b2i_0, b2i_1, b2i_t, b2i_f, gb_b2i, gb_n0, gb_n1, bitN, bit0N, sh1N, orI, andI, e7_within, ite_self, n10, n01, Bool.true_eq_false, Bool.false_eq_true, f_X1_verticalNets, g0, g1, q2, hw1, tI_succ, a1]
        simp only [Nat.add_sub_cancel]
        rcases Bool.eq_false_or_eq_true (exB (fun s => (decide (ne s = w1) && tch P ne fi la s c) && decide (r + 1 ≤ T s)) N) with b2 | b2 <;> simp [b2]
      · obtain ⟨w2, hw2⟩ : ∃ w, P (2 * c + 1) = w + 1 := ⟨P (2 * c + 1) - 1, by omega⟩
        have b1 := e1_wireFromBottom h hA hn hT (show w2 < 6 by omega) hr hc
        simp (disch := omega) only [lit_nI, nI_leS, nI_ltS, nI_eqS, nI_clS, nI_add, mulI, tI_leS, tI_ltS, tI_eqS, tI_m1, nI_m1, tI_eqn, tI_eqn2, tI_ltn, tI_nle, tI_len, tI_nlt, gi_nI, gi_lit, gz_nI, bnd_some, jn_def, vb_def, if_true, if_false, b2i_0, b2i_1, b2i_t, b2i_f, gb_b2i, gb_n0, gb_n1, bitN, bit0N, sh1N, orI, andI, e7_within, ite_self, n10, n01, Bool.true_eq_false, Bool.false_eq_true, f_X1_verticalNets, g0, g1, hw2, hw1, tI_succ, a1, b1]
        simp only [Nat.add_sub_cancel]
        rcases Classical.propComplete (w1 = w2) with q3 | q3 <;> rcases Bool.eq_false_or_eq_true (exB (fun s => (decide (ne s = w1) && tch P ne fi la s c) && decide (r + 1 ≤ T s)) N) with b2 | b2 <;> rcases Bool.eq_false_or_eq_true (exB (fun s => (!decide (T s = 0) && decide (T s ≤ r + 1)) && (decide (ne s = w2) && tch P ne fi la s c)) N) with b3 | b3 <;> simp [b2, b3, q3, b2i_t, b2i_f, gb_n0, gb_n1, n10, n01, nI_eqS, orI, lit_nI]
  intro tb bb htb hbb
  apply Nat.eq_of_testBit_eq
  intro i
  rw [Bool.eq_iff_iff, key, Nat.testBit_or, Bool.or_eq_true]
  have L : ∀ (p : Nat) (b : Bool), (if p ≠ 0 ∧ b = true then 2 ^ (p - 1) else 0).testBit i = true ↔ p = i + 1 ∧ b = true := by
    intro p b
    by_cases q : p ≠ 0 ∧ b = true
    · rw [if_pos q, tb_pow, decide_eq_true_eq]
      constructor
      · intro h; exact ⟨by omega, q.2⟩
      · rintro ⟨h, _⟩; omega
    · rw [if_neg q, Nat.zero_testBit]
      constructor
      · intro h; exact absurd h (by decide)
      · rintro ⟨h1, h2⟩; exact absurd ⟨by omega, h2⟩ q
  rw [L, L]
  constructor
  · rintro (⟨h1, h2⟩ | ⟨h1, h2⟩)
    · have h3 := htb (by omega)
      rw [h2] at h3
      have h3 := h3.symm
      rw [Bool.or_eq_true, decide_eq_true_eq] at h3
      rcases h3 with h3 | h3
      · exact Or.inl ⟨h1, by omega⟩
      · rw [tp (P (2 * c) - 1) i (by omega) (by omega)] at h3
        obtain ⟨s, s1, ⟨s2, s3⟩, s4⟩ := h3
        exact Or.inr ⟨s, s1, (vp s).mpr ⟨⟨by omega, s2⟩, Or.inl ⟨by omega, s3⟩⟩, by omega⟩
    · have h3 := hbb (by omega)
      rw [h2] at h3
      have h3 := h3.symm
      rw [bp] at h3
      obtain ⟨s, s1, ⟨s2, s3, s5⟩, s4⟩ := h3
      exact Or.inr ⟨s, s1, (vp s).mpr ⟨⟨s3, s2⟩, Or.inr ⟨by omega, s5⟩⟩, by omega⟩
  · rintro (⟨h1, h2⟩ | ⟨s, s1, s2, s3⟩)
    · refine Or.inl ⟨h1, ?_⟩
      rw [htb (by omega), Bool.or_eq_true, decide_eq_true_eq]
      exact Or.inl (by omega)
    · obtain ⟨⟨t1, t2⟩, (⟨t3, t4⟩ | ⟨t3, t4⟩)⟩ := (vp s).mp s2
      · refine Or.inl ⟨by omega, ?_⟩
        rw [htb (by omega), Bool.or_eq_true]
        refine Or.inr ((tp (P (2 * c) - 1) i (by have := (h.2.2 s s1).2.1; omega) (by omega)).mpr ⟨s, s1, ⟨t2, t4⟩, by omega⟩)
      · refine Or.inr ⟨by omega, ?_⟩
        rw [hbb (by omega)]
        exact (bp _).mpr ⟨s, s1, ⟨t2, t1, t4⟩, by omega⟩
end
