/-! ===== chain, levels, validity, conflicts, counts ===== -/
def cyB (B : Nat → Nat) (N : Nat) : Bool := exB (fun s => (far B N s).testBit s) N
def lvI (B : Nat → Nat) (N s : Nat) : Int32 := if cyB B N then -nI 1 else nI (lvl (prd B N) N s)
def chI (B : Nat → Nat) (N : Nat) : Int32 := if cyB B N then -nI 1 else nI (rnd (prd B N) N)
section
variable {σ : xSt} {n N : Nat} {P T ne fi la B F : Nat → Nat}
theorem cyB_t (hBb : ∀ s, s < N → ∀ t, (B s).testBit t = true → t < N) (h : cyc B N) : cyB B N = true := (ring_iff hBb).mpr h
theorem cyB_f (hBb : ∀ s, s < N → ∀ t, (B s).testBit t = true → t < N) (h : ¬ cyc B N) : cyB B N = false := by
  rw [Bool.eq_false_iff]; exact fun e => h ((ring_iff hBb).mp e)
theorem rng_ln (h0 : ∃ a l, rng B N a l) (hR : MRg σ B N) : ∃ l, 1 ≤ l ∧ l ≤ N ∧ σ.1 0 11 = nI l := by
  obtain ⟨a, l, h⟩ := h0
  refine ⟨l, h.2.1, ?_, (hR.2 a l h).1⟩
  have := sd_le (B := B) (N := N) (s := a) (t := a)
  rw [h.2.2.1] at this
  exact this
theorem e7_level (hBb : ∀ s, s < N → ∀ t, (B s).testBit t = true → t < N) (h0 : σ.1 0 4 = nI N) (hN : N ≤ 14) (hB : MB σ N B) (hR : MRg σ B N) {s : Nat} (hs : s < N) : ∃ σ', f_X7_level (nI s) σ = some (lvI B N s, σ') ∧ Fr s11 σ σ' := by
  by_cases q : cyc B N
  · obtain ⟨l, l1, l2, l3⟩ := rng_ln (rng_ex hBb q) hR
    refine ⟨σ, ?_, Fr.rf⟩
    have c0 : ¬ l ≤ 0 := by omega
    rw [lvI, cyB_t hBb q]
    simp (disch := omega) only [lit_nI, nI_leS, nI_ltS, nI_eqS, nI_clS, nI_add, mulI, tI_leS, tI_ltS, tI_eqS, tI_m1, nI_m1, tI_eqn, tI_eqn2, tI_ltn, tI_nle, tI_len, tI_nlt, gi_nI, gi_lit, gz_nI, bnd_some, jn_def, vb_def, if_true, if_false, b2i_0, b2i_1, b2i_t, b2i_f, gb_b2i, gb_n0, gb_n1, bitN, bit0N, sh1N, orI, andI, e7_within, ite_self, n10, n01, Bool.true_eq_false, Bool.false_eq_true, f_X7_level, l3, c0]
  · obtain ⟨σ', a1, a2⟩ := e7_levelOf h0 hN hB q hs
    refine ⟨σ', ?_, a2⟩
    have hr := hR.1 q
    rw [lvI, cyB_f hBb q]
    simp (disch := omega) only [lit_nI, nI_leS, nI_ltS, nI_eqS, nI_clS, nI_add, mulI, tI_leS, tI_ltS, tI_eqS, tI_m1, nI_m1, tI_eqn, tI_eqn2, tI_ltn, tI_nle, tI_len, tI_nlt, gi_nI, gi_lit, gz_nI, bnd_some, jn_def, vb_def, if_true, if_false, b2i_0, b2i_1, b2i_t, b2i_f, gb_b2i, gb_n0, gb_n1, bitN, bit0N, sh1N, orI, andI, e7_within, ite_self, n10, n01, Bool.true_eq_false, Bool.false_eq_true, f_X7_level, hr, Nat.le_refl, a1]
theorem MRg.f11 {σ' : xSt} (h : MRg σ B N) (hf : Fr s11 σ σ') : MRg σ' B N := ⟨fun q => (hf.1 0 11 rfl).trans (h.1 q), fun a l q => ⟨(hf.1 0 11 rfl).trans (h.2 a l q).1, fun k hk => (hf.1 8 k rfl).trans ((h.2 a l q).2 k hk)⟩⟩
theorem e7_chain (hBb : ∀ s, s < N → ∀ t, (B s).testBit t = true → t < N) (h0 : σ.1 0 4 = nI N) (hN : N ≤ 14) (hB : MB σ N B) (hR : MRg σ B N) : ∃ σ', f_X7_chain σ = some (chI B N, σ') ∧ Fr s11 σ σ' := by
  have hl : ∀ i, mxN (fun s => lvl (prd B N) N s + 1) i ≤ 15 := fun i => mxN_le (fun s _ => by have := lvl_le_N (N := N) (V := prd B N) (s := s); omega)
  obtain ⟨⟨y1, y2, τ⟩, ⟨i1, i2, i3⟩, i4⟩ := lpI (fun q (x : Int32 × Int32 × xSt) => f_X7_chain_4 (fun (e7 : Int32) (s8 : xSt) => jn (fun (v9 : Int32) (s10 : xSt) => some (v9, s10)) (fun j11 => if (s8.1 0 11) ≤ 0 then (j11 e7 s8) else (j11 (-1) s8))) q x.1 x.2.1 x.2.2) (fun i y => y.1 = nI (if cyB B N then 0 else mxN (fun s => lvl (prd B N) N s + 1) i) ∧ y.2.1 = nI i ∧ Fr s11 σ y.2.2) N (fun y => some (chI B N, y.2.2)) (by omega) (fun q i y hi hI => by
    obtain ⟨y1, y2, τ⟩ := y
    obtain ⟨i1, i2, i3⟩ := hI
    dsimp only at i1 i2 i3 ⊢
    subst i1 i2
    have h4 : τ.1 0 4 = nI N := (i3.1 0 4 rfl).trans h0
    obtain ⟨τ', a1, a2⟩ := e7_level hBb h4 hN (hB.f11 i3) (hR.f11 i3) hi
    refine ⟨(nI (if cyB B N then 0 else mxN (fun s => lvl (prd B N) N s + 1) (i + 1)), nI (i + 1), τ'), ⟨rfl, rfl, i3.tr a2⟩, ?_⟩
    have c0 : ¬ N ≤ i := by omega
    have e : mxN (fun s => lvl (prd B N) N s + 1) (i + 1) = if lvl (prd B N) N i + 1 ≤ mxN (fun s => lvl (prd B N) N s + 1) i then mxN (fun s => lvl (prd B N) N s + 1) i else lvl (prd B N) N i + 1 := rfl
    rw [e]
    have h15 := hl i
    have hlv := lvl_le_N (N := N) (V := prd B N) (s := i)
    rw [lvI] at a1
    generalize mxN (fun s => lvl (prd B N) N s + 1) i = mx at *
    generalize lvl (prd B N) N i = lv at *
    cases hcy : cyB B N
    · rw [hcy] at a1
      simp only [Bool.false_eq_true, if_false] at a1 ⊢
      rcases Classical.propComplete (lv + 1 ≤ mx) with q1 | q1 <;> simp (disch := omega) only [lit_nI, nI_leS, nI_ltS, nI_eqS, nI_clS, nI_add, mulI, tI_leS, tI_ltS, tI_eqS, tI_m1, nI_m1, tI_eqn, tI_eqn2, tI_ltn, tI_nle, tI_len, tI_nlt, gi_nI, gi_lit, gz_nI, bnd_some, jn_def, vb_def, if_true, if_false, b2i_0, b2i_1, b2i_t, b2i_f, gb_b2i, gb_n0, gb_n1, bitN, bit0N, sh1N, orI, andI, e7_within, ite_self, n10, n01, Bool.true_eq_false, Bool.false_eq_true, f_X7_chain_4, h4, c0, a1, q1]
    · rw [hcy] at a1
      simp only [if_true] at a1 ⊢
      have z : -nI 1 + nI 1 = nI 0 := by decide
      simp (disch := omega) only [lit_nI, nI_leS, nI_ltS, nI_eqS, nI_clS, nI_add, mulI, tI_leS, tI_ltS, tI_eqS, tI_m1, nI_m1, tI_eqn, tI_eqn2, tI_ltn, tI_nle, tI_len, tI_nlt, gi_nI, gi_lit, gz_nI, bnd_some, jn_def, vb_def, if_true, if_false, b2i_0, b2i_1, b2i_t, b2i_f, gb_b2i, gb_n0, gb_n1, bitN, bit0N, sh1N, orI, andI, e7_within, ite_self, n10, n01, Bool.true_eq_false, Bool.false_eq_true, f_X7_chain_4, h4, c0, a1, z, Nat.le_refl]) (fun q y hI => by
    obtain ⟨y1, y2, τ⟩ := y
    obtain ⟨i1, i2, i3⟩ := hI
    dsimp only at i1 i2 i3 ⊢
    subst i1 i2
    have h4 : τ.1 0 4 = nI N := (i3.1 0 4 rfl).trans h0
    rw [chI, rnd]
    by_cases q : cyc B N
    · obtain ⟨l, l1, l2, l3⟩ := rng_ln (rng_ex hBb q) (hR.f11 i3)
      have c0 : ¬ l ≤ 0 := by omega
      rw [cyB_t hBb q]
      simp (disch := omega) only [lit_nI, nI_leS, nI_ltS, nI_eqS, nI_clS, nI_add, mulI, tI_leS, tI_ltS, tI_eqS, tI_m1, nI_m1, tI_eqn, tI_eqn2, tI_ltn, tI_nle, tI_len, tI_nlt, gi_nI, gi_lit, gz_nI, bnd_some, jn_def, vb_def, if_true, if_false, b2i_0, b2i_1, b2i_t, b2i_f, gb_b2i, gb_n0, gb_n1, bitN, bit0N, sh1N, orI, andI, e7_within, ite_self, n10, n01, Bool.true_eq_false, Bool.false_eq_true, f_X7_chain_4, h4, Nat.le_refl, l3, c0]
    · have hr := (hR.f11 i3).1 q
      rw [cyB_f hBb q]
      simp (disch := omega) only [lit_nI, nI_leS, nI_ltS, nI_eqS, nI_clS, nI_add, mulI, tI_leS, tI_ltS, tI_eqS, tI_m1, nI_m1, tI_eqn, tI_eqn2, tI_ltn, tI_nle, tI_len, tI_nlt, gi_nI, gi_lit, gz_nI, bnd_some, jn_def, vb_def, if_true, if_false, b2i_0, b2i_1, b2i_t, b2i_f, gb_b2i, gb_n0, gb_n1, bitN, bit0N, sh1N, orI, andI, e7_within, ite_self, n10, n01, Bool.true_eq_false, Bool.false_eq_true, f_X7_chain_4, h4, Nat.le_refl, hr]) (nI 0, nI 0, σ) ⟨by cases cyB B N <;> rfl, rfl, Fr.rf⟩
  exact ⟨τ, i4, i3⟩
theorem e1_isValid (h : CS σ 5 N ne fi la) (hB : CB σ 5 N B) (hT : CTr σ N T) : f_X1_isValid σ = some (b2i (valB T ne fi la B N), σ) := by
  have hN := h.2.1
  have h0 := h.1
  rw [f_X1_isValid, valB]
  have key := lpA (fun m (a : Int32) => f_X1_isValid_2 (fun s8 => gb 1 (some (1, s8))) m a σ) (fun s => !decide (T s = 0) && alB (fun t => fine T ne fi la B t s) s) N (by omega) (some (nI 0, σ)) (some (nI 1, σ)) (fun m i hi => by
    have c0 : ¬ N ≤ i := by omega
    obtain ⟨t1, t2⟩ := hT.1 i (by omega)
    have g := e1_fitsBefore (T := T) h hB hi (fun t ht => hT.1 t (by omega))
    simp (disch := omega) only [lit_nI, nI_leS, nI_ltS, nI_eqS, nI_clS, nI_add, mulI, tI_leS, tI_ltS, tI_eqS, tI_m1, nI_m1, tI_eqn, tI_eqn2, tI_ltn, tI_nle, tI_len, tI_nlt, gi_nI, gi_lit, gz_nI, bnd_some, jn_def, vb_def, if_true, if_false, b2i_0, b2i_1, b2i_t, b2i_f, gb_b2i, gb_n0, gb_n1, bitN, bit0N, sh1N, orI, andI, e7_within, ite_self, n10, n01, Bool.true_eq_false, Bool.false_eq_true, f_X1_isValid_2, h0, c0, t1, g]
    rcases Classical.propComplete (T i = 0) with q1 | q1 <;> rcases Bool.eq_false_or_eq_true (alB (fun t => fine T ne fi la B t i) i) with b1 | b1 <;> simp [q1, b1, b2i_t, b2i_f, gb_n0, gb_n1, n10, n01, nI_eqS]) (fun m => by
    simp (disch := omega) only [lit_nI, nI_leS, nI_ltS, nI_eqS, nI_clS, nI_add, mulI, tI_leS, tI_ltS, tI_eqS, tI_m1, nI_m1, tI_eqn, tI_eqn2, tI_ltn, tI_nle, tI_len, tI_nlt, gi_nI, gi_lit, gz_nI, bnd_some, jn_def, vb_def, if_true, if_false, b2i_0, b2i_1, b2i_t, b2i_f, gb_b2i, gb_n0, gb_n1, bitN, bit0N, sh1N, orI, andI, e7_within, ite_self, n10, n01, Bool.true_eq_false, Bool.false_eq_true, f_X1_isValid_2, h0, Nat.le_refl])
  refine Eq.trans key ?_
  cases alB (fun s => !decide (T s = 0) && alB (fun t => fine T ne fi la B t s) s) N <;> rfl
theorem mxN14 (hT : CTr σ N T) (hN : N ≤ 14) : mxN T 14 = mxN T N := by
  have : ∀ d, N + d ≤ 14 → mxN T (N + d) = mxN T N := by
    intro d
    induction d with
    | zero => intro _; rfl
    | succ d ih =>
      intro hd
      have e : mxN T (N + d + 1) = if T (N + d) ≤ mxN T (N + d) then mxN T (N + d) else T (N + d) := rfl
      have z := hT.2 (N + d) (by omega) (by omega)
      rw [show N + (d + 1) = N + d + 1 by omega, e, z, if_pos (Nat.zero_le _), ih (by omega)]
  have h := this (14 - N) (by omega)
  rw [show N + (14 - N) = 14 by omega] at h
  exact h
theorem cnt14 (hT : CTr σ N T) (hN : N ≤ 14) : cnt (fun s => !decide (T s = 0)) 14 = cnt (fun s => !decide (T s = 0)) N := by
  have : ∀ d, N + d ≤ 14 → cnt (fun s => !decide (T s = 0)) (N + d) = cnt (fun s => !decide (T s = 0)) N := by
    intro d
    induction d with
    | zero => intro _; rfl
    | succ d ih =>
      intro hd
      have e : cnt (fun s => !decide (T s = 0)) (N + d + 1) = cnt (fun s => !decide (T s = 0)) (N + d) + (if (!decide (T (N + d) = 0)) then 1 else 0) := rfl
      have z := hT.2 (N + d) (by omega) (by omega)
      rw [show N + (d + 1) = N + d + 1 by omega, e, z, ih (by omega)]
      rfl
  have h := this (14 - N) (by omega)
  rw [show N + (14 - N) = 14 by omega] at h
  exact h
theorem e1_conflicts (hP : CP σ n P) (h : CS σ 5 N ne fi la) (hA : CA σ 5 n N P ne fi la) (hT : CTr σ N T) : f_X1_conflicts σ = some (nI (clS P T ne fi la N n (mxN T N)), σ) := by
  have hN := h.2.1
  have hn := hP.2.1
  have h0 := hP.1
  have hD : mxN T N ≤ 14 := mxN_le (fun j hj => (hT.1 j (by omega)).2)
  have hne : ∀ s, s < N → ne s < 6 := fun s hs => (h.2.2 s hs).2.1
  have hT' : ∀ s, s < N → σ.1 29 s = tI (T s) ∧ T s ≤ 14 := fun s hs => hT.1 s (by omega)
  have inner : ∀ (r a : Nat) (k : Int32 → xSt → Option (Int32 × xSt)), r < 14 → a ≤ 1000 → f_X1_conflicts_21 (nI r) k FU (nI a) (nI 0) σ = k (nI (clR P T ne fi la N n r a)) σ := by
    intro r a k hr ha
    refine lpF (fun m (x : Int32 × Int32) => f_X1_conflicts_21 (nI r) k m x.1 x.2 σ) (fun i => (nI (clR P T ne fi la N i r a), nI i)) n _ (by omega) (fun m i hi => ?_) (fun m => ?_)
    · have c0 : ¬ nI n ≤ nI i := xn_le (by omega) (by omega)
      have m1 : msk ne (fun s => decide (T s = r + 1) && wi fi la s i) N < 64 := msk_lt hne
      have m2 : vns P T ne fi la N r i < 64 := vns_lt hne (hP.2.2 (2 * i) (by omega)).2
      have z1 := eJ_bitCount (show _ < 16384 by omega) (m := msk ne (fun s => decide (T s = r + 1) && wi fi la s i) N) σ
      have z2 := eJ_bitCount (show _ < 16384 by omega) (m := vns P T ne fi la N r i) σ
      have p1 := pc_le (msk ne (fun s => decide (T s = r + 1) && wi fi la s i) N) 16
      have p2 := pc_le (vns P T ne fi la N r i) 16
      have u1 := e1_horizontalNets h hT' (show r < 100 by omega) (show i < 100 by omega)
      have u2 := e1_verticalNets hP h hA hT' (show r < 100 by omega) hi
      have e : clR P T ne fi la N (i + 1) r a = clC P T ne fi la N r i (clR P T ne fi la N i r a) := rfl
      rw [e, clC]
      generalize hq1 : pc (msk ne (fun s => decide (T s = r + 1) && wi fi la s i) N) 16 = q1 at z1 p1
      generalize hq2 : pc (vns P T ne fi la N r i) 16 = q2 at z2 p2
      generalize msk ne (fun s => decide (T s = r + 1) && wi fi la s i) N = y1 at z1 u1
      generalize vns P T ne fi la N r i = y2 at z2 u2
      generalize clR P T ne fi la N i r a = aa
      show f_X1_conflicts_21 (nI r) k (m + 1) (nI aa) (nI i) σ = f_X1_conflicts_21 (nI r) k m _ (nI (i + 1)) σ
      rw [f_X1_conflicts_21, h0, if_neg c0, u1, bnd_some, z1, bnd_some, jn_def]
      have l1 : (nI q1 ≤ (1 : Int32)) = (q1 ≤ 1) := nI_leS (b := 1) (by omega) (by omega)
      have l2 : (nI q2 ≤ (1 : Int32)) = (q2 ≤ 1) := nI_leS (b := 1) (by omega) (by omega)
      by_cases g1 : q1 ≤ 1 <;> by_cases g2 : q2 ≤ 1
      · rw [if_pos (l1.mpr g1)]; dsimp only; rw [u2, bnd_some, z2, bnd_some, jn_def, if_pos (l2.mpr g2), if_neg (by omega), if_neg (by omega), xn_s]
        rfl
      · rw [if_pos (l1.mpr g1)]; dsimp only; rw [u2, bnd_some, z2, bnd_some, jn_def, if_neg (fun e => g2 (l2.mp e)), if_neg (by omega), if_pos (by omega), xn_s, xn_s]
      · rw [if_neg (fun e => g1 (l1.mp e))]; dsimp only; rw [u2, bnd_some, z2, bnd_some, jn_def, if_pos (l2.mpr g2), if_pos (by omega), if_neg (by omega), xn_s, xn_s]
      · rw [if_neg (fun e => g1 (l1.mp e))]; dsimp only; rw [u2, bnd_some, z2, bnd_some, jn_def, if_neg (fun e => g2 (l2.mp e)), if_pos (by omega), if_pos (by omega), xn_s, xn_s, xn_s]
    · show f_X1_conflicts_21 (nI r) k (m + 1) _ (nI n) σ = _
      rw [f_X1_conflicts_21, h0, if_pos (xy_le (Nat.le_refl n) (by omega))]
  have hdp := e1_depth hT
  rw [mxN14 hT hN] at hdp
  rw [f_X1_conflicts, hdp, bnd_some]
  refine lpF (fun m (a : Int32 × Int32) => f_X1_conflicts_11 (nI (mxN T N)) _ m a.1 a.2 σ) (fun i => (nI (clS P T ne fi la N n i), nI i)) (mxN T N) _ (by omega) (fun m i hi => ?_) (fun m => ?_)
  · have hle := clS_le (P := P) (T := T) (ne := ne) (fi := fi) (la := la) (N := N) hn i
    show f_X1_conflicts_11 _ _ (m + 1) _ (nI i) σ = f_X1_conflicts_11 _ _ m _ (nI (i + 1)) σ
    rw [f_X1_conflicts_11, if_neg (xn_le (by omega) (by omega))]
    refine Eq.trans (inner i (clS P T ne fi la N n i) _ (by omega) (by omega)) ?_
    rw [xn_s]
    rfl
  · show f_X1_conflicts_11 _ _ (m + 1) _ (nI (mxN T N)) σ = _
    rw [f_X1_conflicts_11, if_pos (xy_le (Nat.le_refl _) (by omega))]
theorem e3_numberOf (h : CS σ 5 N ne fi la) {w : Nat} (hw : w < 6) : f_X3_numberOf 5 (nI w) σ = some (nI (cnt (fun s => decide (ne s = w)) N), σ) := by
  have hN := h.2.1
  have h0 := h.1
  rw [f_X3_numberOf]
  refine lpF (fun m (a : Int32 × Int32) => f_X3_numberOf_4 5 (nI w) (fun e4 s5 => some (e4, s5)) m a.1 a.2 σ) (fun i => (nI (cnt (fun s => decide (ne s = w)) i), nI i)) N _ (by omega) (fun m i hi => ?_) (fun m => ?_)
  · have c0 : ¬ N ≤ i := by omega
    obtain ⟨⟨g1, g2, g3⟩, g4, g5, g6⟩ := h.2.2 i hi
    have e : cnt (fun s => decide (ne s = w)) (i + 1) = cnt (fun s => decide (ne s = w)) i + (if decide (ne i = w) = true then 1 else 0) := rfl
    rw [e]
    rcases Classical.propComplete (ne i = w) with q1 | q1 <;> simp (disch := omega) only [lit_nI, nI_leS, nI_ltS, nI_eqS, nI_clS, nI_add, mulI, tI_leS, tI_ltS, tI_eqS, tI_m1, nI_m1, tI_eqn, tI_eqn2, tI_ltn, tI_nle, tI_len, tI_nlt, gi_nI, gi_lit, gz_nI, bnd_some, jn_def, vb_def, if_true, if_false, b2i_0, b2i_1, b2i_t, b2i_f, gb_b2i, gb_n0, gb_n1, bitN, bit0N, sh1N, orI, andI, e7_within, ite_self, n10, n01, Bool.true_eq_false, Bool.false_eq_true, f_X3_numberOf_4, h0, c0, g1, q1, decide_true, decide_false, Nat.add_zero]
  · simp (disch := omega) only [lit_nI, nI_leS, nI_ltS, nI_eqS, nI_clS, nI_add, mulI, tI_leS, tI_ltS, tI_eqS, tI_m1, nI_m1, tI_eqn, tI_eqn2, tI_ltn, tI_nle, tI_len, tI_nlt, gi_nI, gi_lit, gz_nI, bnd_some, jn_def, vb_def, if_true, if_false, b2i_0, b2i_1, b2i_t, b2i_f, gb_b2i, gb_n0, gb_n1, bitN, bit0N, sh1N, orI, andI, e7_within, ite_self, n10, n01, Bool.true_eq_false, Bool.false_eq_true, f_X3_numberOf_4, h0, Nat.le_refl]
/-- whether a net has a pin -/
theorem cnt_pos {p : Nat → Bool} : ∀ {N : Nat}, 0 < cnt p N ↔ ∃ i, i < N ∧ p i = true
  | 0 => ⟨fun h => absurd h (Nat.lt_irrefl 0), fun ⟨i, h, _⟩ => absurd h (Nat.not_lt_zero i)⟩
  | N + 1 => by
    have ih := cnt_pos (p := p) (N := N)
    have e : cnt p (N + 1) = cnt p N + (if p N then 1 else 0) := rfl
    rw [e]
    constructor
    · intro h
      by_cases q : p N = true
      · exact ⟨N, by omega, q⟩
      · rw [if_neg q] at h
        obtain ⟨i, h1, h2⟩ := ih.mp (by omega)
        exact ⟨i, by omega, h2⟩
    · rintro ⟨i, h1, h2⟩
      rcases Nat.lt_or_ge i N with h | h
      · have := ih.mpr ⟨i, h, h2⟩; omega
      · have : i = N := by omega
        subst this
        rw [if_pos h2]; omega
theorem pins_hp {w : Nat} : 0 < cnt (fun k => decide (P k = w + 1)) (2 * n) ↔ 0 < cnt (hp P w) n := by
  rw [cnt_pos, cnt_pos]
  constructor
  · rintro ⟨k, h1, h2⟩
    rw [decide_eq_true_eq] at h2
    refine ⟨k / 2, by omega, ?_⟩
    rw [hp, Bool.or_eq_true, decide_eq_true_eq, decide_eq_true_eq]
    rcases Nat.mod_two_eq_zero_or_one k with h | h
    · left; rw [show 2 * (k / 2) = k by omega]; exact h2
    · right; rw [show 2 * (k / 2) + 1 = k by omega]; exact h2
  · rintro ⟨c, h1, h2⟩
    rw [hp, Bool.or_eq_true, decide_eq_true_eq, decide_eq_true_eq] at h2
    rcases h2 with h | h
    · exact ⟨2 * c, by omega, decide_eq_true h⟩
    · exact ⟨2 * c + 1, by omega, decide_eq_true h⟩
theorem cmk_zero {p : Nat → Bool} : cmk p N = 0 ↔ cnt p N = 0 := by
  constructor
  · intro h
    refine Classical.byContradiction fun hn => ?_
    obtain ⟨i, h1, h2⟩ := cnt_pos.mp (Nat.pos_of_ne_zero hn)
    have : (cmk p N).testBit i = true := by rw [cmk_bit, h2, decide_eq_true h1]; rfl
    rw [h, Nat.zero_testBit] at this
    exact absurd this (by decide)
  · intro h
    apply Nat.eq_of_testBit_eq
    intro i
    rw [cmk_bit, Nat.zero_testBit, Bool.and_eq_false_iff]
    by_cases hi : i < N
    · right
      rw [Bool.eq_false_iff]
      intro hp
      have := cnt_pos.mpr ⟨i, hi, hp⟩
      omega
    · left; exact decide_eq_false hi
def ntB (P : Nat → Nat) (n w : Nat) : Bool := decide (0 < cnt (hp P w) n)
theorem e0_nets (hP : CP σ n P) : f_X0_nets σ = some (nI (cnt (ntB P n) 6), σ) := by
  have hn := hP.2.1
  rw [f_X0_nets]
  refine lpF (fun m (a : Int32 × Int32) => f_X0_nets_4 (fun e4 s5 => some (e4, s5)) m a.1 a.2 σ) (fun i => (nI (cnt (ntB P n) i), nI i)) 6 _ (by omega) (fun m i hi => ?_) (fun m => ?_)
  · have c0 : ¬ 6 ≤ i := by omega
    have hc := e0_columnsWith hP hi
    have hlt : cmk (hp P i) n < 16384 := cmk14 (by omega)
    have hz := cmk_zero (N := n) (p := hp P i)
    have e : cnt (ntB P n) (i + 1) = cnt (ntB P n) i + (if decide (0 < cnt (hp P i) n) = true then 1 else 0) := rfl
    rw [e]
    generalize cmk (hp P i) n = x at *
    rcases Classical.propComplete (x = 0) with q1 | q1
    · have q0 : x = 0 := by rw [q1]; trivial
      have : ¬ 0 < cnt (hp P i) n := by have := hz.mp q0; omega
      simp (disch := omega) only [lit_nI, nI_leS, nI_ltS, nI_eqS, nI_clS, nI_add, mulI, tI_leS, tI_ltS, tI_eqS, tI_m1, nI_m1, tI_eqn, tI_eqn2, tI_ltn, tI_nle, tI_len, tI_nlt, gi_nI, gi_lit, gz_nI, bnd_some, jn_def, vb_def, if_true, if_false, b2i_0, b2i_1, b2i_t, b2i_f, gb_b2i, gb_n0, gb_n1, bitN, bit0N, sh1N, orI, andI, e7_within, ite_self, n10, n01, Bool.true_eq_false, Bool.false_eq_true, f_X0_nets_4, c0, hc, q1, this, decide_false, Nat.add_zero]
    · have q0 : ¬ x = 0 := by rw [q1]; exact id
      have : 0 < cnt (hp P i) n := Nat.pos_of_ne_zero (fun e => q0 (hz.mpr e))
      simp (disch := omega) only [lit_nI, nI_leS, nI_ltS, nI_eqS, nI_clS, nI_add, mulI, tI_leS, tI_ltS, tI_eqS, tI_m1, nI_m1, tI_eqn, tI_eqn2, tI_ltn, tI_nle, tI_len, tI_nlt, gi_nI, gi_lit, gz_nI, bnd_some, jn_def, vb_def, if_true, if_false, b2i_0, b2i_1, b2i_t, b2i_f, gb_b2i, gb_n0, gb_n1, bitN, bit0N, sh1N, orI, andI, e7_within, ite_self, n10, n01, Bool.true_eq_false, Bool.false_eq_true, f_X0_nets_4, c0, hc, q1, this, decide_true]
  · simp (disch := omega) only [lit_nI, nI_leS, nI_ltS, nI_eqS, nI_clS, nI_add, mulI, tI_leS, tI_ltS, tI_eqS, tI_m1, nI_m1, tI_eqn, tI_eqn2, tI_ltn, tI_nle, tI_len, tI_nlt, gi_nI, gi_lit, gz_nI, bnd_some, jn_def, vb_def, if_true, if_false, b2i_0, b2i_1, b2i_t, b2i_f, gb_b2i, gb_n0, gb_n1, bitN, bit0N, sh1N, orI, andI, e7_within, ite_self, n10, n01, Bool.true_eq_false, Bool.false_eq_true, f_X0_nets_4, Nat.le_refl]
theorem e7_netsThere (hP : MP σ n P) : f_X7_netsThere σ = some (nI (cnt (ntB P n) 6), σ) := by
  have hn := hP.2.1
  rw [f_X7_netsThere]
  refine lpF (fun m (a : Int32 × Int32) => f_X7_netsThere_4 (fun e4 s5 => some (e4, s5)) m a.1 a.2 σ) (fun i => (nI (cnt (ntB P n) i), nI i)) 6 _ (by omega) (fun m i hi => ?_) (fun m => ?_)
  · have c0 : ¬ 6 ≤ i := by omega
    have hc := e7_pinsOf hP (w := i + 1) (by omega)
    rw [tI_succ] at hc
    have hz := pins_hp (P := P) (n := n) (w := i)
    have hle := cnt_le (fun k => decide (P k = i + 1)) (2 * n)
    have e : cnt (ntB P n) (i + 1) = cnt (ntB P n) i + (if decide (0 < cnt (hp P i) n) = true then 1 else 0) := rfl
    rw [e]
    generalize cnt (fun k => decide (P k = i + 1)) (2 * n) = x at *
    by_cases q0 : x ≤ 0
    · have : ¬ 0 < cnt (hp P i) n := fun h => by have := hz.mpr h; omega
      simp (disch := omega) only [lit_nI, nI_leS, nI_ltS, nI_eqS, nI_clS, nI_add, mulI, tI_leS, tI_ltS, tI_eqS, tI_m1, nI_m1, tI_eqn, tI_eqn2, tI_ltn, tI_nle, tI_len, tI_nlt, gi_nI, gi_lit, gz_nI, bnd_some, jn_def, vb_def, if_true, if_false, b2i_0, b2i_1, b2i_t, b2i_f, gb_b2i, gb_n0, gb_n1, bitN, bit0N, sh1N, orI, andI, e7_within, ite_self, n10, n01, Bool.true_eq_false, Bool.false_eq_true, f_X7_netsThere_4, c0, hc, q0, this, decide_false, Nat.add_zero]
    · have : 0 < cnt (hp P i) n := hz.mp (by omega)
      simp (disch := omega) only [lit_nI, nI_leS, nI_ltS, nI_eqS, nI_clS, nI_add, mulI, tI_leS, tI_ltS, tI_eqS, tI_m1, nI_m1, tI_eqn, tI_eqn2, tI_ltn, tI_nle, tI_len, tI_nlt, gi_nI, gi_lit, gz_nI, bnd_some, jn_def, vb_def, if_true, if_false, b2i_0, b2i_1, b2i_t, b2i_f, gb_b2i, gb_n0, gb_n1, bitN, bit0N, sh1N, orI, andI, e7_within, ite_self, n10, n01, Bool.true_eq_false, Bool.false_eq_true, f_X7_netsThere_4, c0, hc, q0, this, decide_true]
  · simp (disch := omega) only [lit_nI, nI_leS, nI_ltS, nI_eqS, nI_clS, nI_add, mulI, tI_leS, tI_ltS, tI_eqS, tI_m1, nI_m1, tI_eqn, tI_eqn2, tI_ltn, tI_nle, tI_len, tI_nlt, gi_nI, gi_lit, gz_nI, bnd_some, jn_def, vb_def, if_true, if_false, b2i_0, b2i_1, b2i_t, b2i_f, gb_b2i, gb_n0, gb_n1, bitN, bit0N, sh1N, orI, andI, e7_within, ite_self, n10, n01, Bool.true_eq_false, Bool.false_eq_true, f_X7_netsThere_4, Nat.le_refl]
theorem e0_pinsOfNets (hP : CP σ n P) : f_X0_pinsOfNets σ = some (nI (2 * n) - nI (cnt (fun k => decide (P k = 0)) (2 * n)), σ) := by
  have hc := e0_pinsOf hP (w := 0) (by omega)
  rw [tI_0] at hc
  rw [f_X0_pinsOfNets, hP.1]
  rw [show f_X0_pinsOf (-1) σ = f_X0_pinsOf (-nI 1) σ from rfl, hc, bnd_some]
  rw [show (2 : Int32) * nI n = nI (2 * n) from mulI 2 n]
end
