/-! ===== the breaking set ===== -/
/-- whether there is no cycle with exactly these nets split -/
def acB (P : Nat → Nat) (n S : Nat) : Bool := !exB (fun s => (far (bel P n (sgs P n S 6)) (sgs P n S 6).length s).testBit s) (sgs P n S 6).length
theorem acB_iff {P : Nat → Nat} {n S : Nat} : acB P n S = true ↔ ¬ cyc (bel P n (sgs P n S 6)) (sgs P n S 6).length := by
  rw [acB, Bool.not_eq_true', Bool.eq_false_iff, Ne, ring_iff (fun s _ t => bel_lt s t)]
def spl (P : Nat → Nat) (n : Nat) : Nat := cmk (fun w => decide (2 < cnt (hp P w) n)) 6
theorem pcs_whl (P : Nat → Nat) (w : Nat) : ∀ k, (cnt (hp P w) k = 0 → pcs P w k = []) ∧ (cnt (hp P w) k = 1 → pcs P w k = [] ∧ fpn P w k = lpn P w k ∧ lpn P w k ≠ 0) ∧ (cnt (hp P w) k = 2 → pcs P w k = [(w, fpn P w k - 1, lpn P w k - 1)] ∧ fpn P w k < lpn P w k)
  | 0 => ⟨fun _ => rfl, fun h => Nat.noConfusion h, fun h => Nat.noConfusion h⟩
  | k + 1 => by
    obtain ⟨i0, i1, i2⟩ := pcs_whl P w k
    have hc := cnt_lpn P w k
    have hl := lpn_le P w k
    have hf := fpn_le P w k
    have e0 : cnt (hp P w) (k + 1) = cnt (hp P w) k + (if hp P w k then 1 else 0) := rfl
    have e1 : fpn P w (k + 1) = if fpn P w k = 0 then (if hp P w k then k + 1 else 0) else fpn P w k := rfl
    have e2 : lpn P w (k + 1) = if hp P w k then k + 1 else lpn P w k := rfl
    have e3 : pcs P w (k + 1) = if hp P w k = true ∧ lpn P w k ≠ 0 then pcs P w k ++ [(w, lpn P w k - 1, k)] else pcs P w k := rfl
    rw [e0, e1, e2, e3]
    by_cases q : hp P w k = true
    · rw [if_pos q, if_pos q, if_pos q]
      by_cases q1 : lpn P w k = 0
      · have q2 : fpn P w k = 0 := hf.2.mpr q1
        have q3 := hc.mp q1
        rw [if_neg (fun h => h.2 q1), if_pos q2, q3]
        exact ⟨fun h => absurd h (by omega), fun _ => ⟨i0 q3, rfl, by omega⟩, fun h => absurd h (by omega)⟩
      · have q2 : ¬ fpn P w k = 0 := fun e => q1 (hf.2.mp e)
        have q3 : cnt (hp P w) k ≠ 0 := fun e => q1 (hc.mpr e)
        rw [if_pos ⟨q, q1⟩, if_neg q2]
        refine ⟨fun h => absurd h (by omega), fun h => absurd h (by omega), fun h => ?_⟩
        obtain ⟨j1, j2, j3⟩ := i1 (by omega)
        rw [j1, j2]
        exact ⟨rfl, by omega⟩
    · have x3 : (if hp P w k = true ∧ lpn P w k ≠ 0 then pcs P w k ++ [(w, lpn P w k - 1, k)] else pcs P w k) = pcs P w k := if_neg (fun h => q h.1)
      have x0 : (if hp P w k = true then 1 else 0) = 0 := if_neg q
      have x2 : (if hp P w k = true then k + 1 else lpn P w k) = lpn P w k := if_neg q
      have ee : (if fpn P w k = 0 then (if hp P w k = true then k + 1 else 0) else fpn P w k) = fpn P w k := by
        by_cases q2 : fpn P w k = 0
        · rw [if_pos q2, if_neg q, q2]
        · rw [if_neg q2]
      rw [x3, x0, x2, ee, Nat.add_zero]
      exact ⟨i0, i1, i2⟩
theorem sgW_spl {P : Nat → Nat} {n S w : Nat} (hw : w < 6) : sgW P n (S &&& spl P n) w = sgW P n S w := by
  rw [sgW, sgW, Nat.testBit_and, spl, cmk_bit]
  rcases Bool.eq_false_or_eq_true (S.testBit w) with b1 | b1
  · by_cases q : 2 < cnt (hp P w) n
    · simp [b1, hw, q]
    · have e : pcs P w n = whl P w n := by
        obtain ⟨i0, i1, i2⟩ := pcs_whl P w n
        rw [whl]
        rcases (show cnt (hp P w) n = 0 ∨ cnt (hp P w) n = 1 ∨ cnt (hp P w) n = 2 by omega) with h | h | h
        · have h1 := (cnt_lpn P w n).mpr h
          rw [i0 h, if_neg (by omega)]
        · obtain ⟨j1, j2, j3⟩ := i1 h
          rw [j1, if_neg (by omega)]
        · obtain ⟨j1, j2⟩ := i2 h
          rw [j1, if_pos j2]
      simp [b1, hw, q, e]
  · simp [b1]
theorem sgs_spl {P : Nat → Nat} {n S : Nat} : ∀ {w : Nat}, w ≤ 6 → sgs P n (S &&& spl P n) w = sgs P n S w
  | 0, _ => rfl
  | w + 1, h => by
    show sgs P n (S &&& spl P n) w ++ sgW P n (S &&& spl P n) w = sgs P n S w ++ sgW P n S w
    rw [sgs_spl (w := w) (by omega), sgW_spl (by omega)]
theorem acB_spl {P : Nat → Nat} {n S : Nat} : acB P n (S &&& spl P n) = acB P n S := by rw [acB, acB, sgs_spl (Nat.le_refl 6)]
theorem pc_sub : ∀ S, S < 64 → ∀ m, m < 64 → S &&& m ≠ S → pc (S &&& m) 16 < pc S 16 := by decide +kernel
theorem pc_64 : ∀ S, S < 64 → pc S 16 ≤ 6 := by decide +kernel
/-- the first set of m nets that breaks -/
def bsM (P : Nat → Nat) (n m : Nat) : Nat := fst (fun S => decide (pc S 16 = m) && acB P n S) 64
def bsC (P : Nat → Nat) (n m : Nat) : Nat := fst (fun S => decide (pc S 16 = m) && (decide (S &&& spl P n = S) && acB P n S)) 64
theorem spl_lt {P : Nat → Nat} {n : Nat} : spl P n < 64 := cmk_lt
theorem bs_eq {P : Nat → Nat} {n m : Nat} (h : ∀ j, j < m → bsM P n j = 64) : bsC P n m = bsM P n m := by
  have hl := fst_le (fun S => decide (pc S 16 = m) && acB P n S) 64
  have hno := fst_no (fun S => decide (pc S 16 = m) && acB P n S) 64
  have hyes := fst_yes (fun S => decide (pc S 16 = m) && acB P n S) 64
  refine fst_eq hl (fun S hS => ?_) (fun hlt => ?_)
  · have := hno S hS
    simp only [Bool.and_eq_false_iff] at this ⊢
    rcases this with h1 | h1
    · exact Or.inl h1
    · exact Or.inr (Or.inr h1)
  · have hy := hyes hlt
    show (decide (pc (bsM P n m) 16 = m) && (decide (bsM P n m &&& spl P n = bsM P n m) && acB P n (bsM P n m))) = true
    have hy' : (decide (pc (bsM P n m) 16 = m) && acB P n (bsM P n m)) = true := hy
    have hlt' : bsM P n m < 64 := hlt
    rw [Bool.and_eq_true, decide_eq_true_eq] at hy'
    have hsub : bsM P n m &&& spl P n = bsM P n m := by
      refine Classical.byContradiction fun hn => ?_
      have h1 := pc_sub _ hlt' _ (spl_lt (P := P) (n := n)) hn
      have h2 : bsM P n m &&& spl P n < 64 := Nat.lt_of_le_of_lt Nat.and_le_left hlt'
      have h3 := fst_no (fun S => decide (pc S 16 = pc (bsM P n m &&& spl P n) 16) && acB P n S) 64 (bsM P n m &&& spl P n) (by
        have h4 : bsM P n (pc (bsM P n m &&& spl P n) 16) = 64 := h _ (by omega)
        have h5 : fst (fun S => decide (pc S 16 = pc (bsM P n m &&& spl P n) 16) && acB P n S) 64 = 64 := h4
        rw [h5]; exact h2)
      rw [acB_spl, hy'.2] at h3
      simp at h3
    simp [hy'.1, hsub, hy'.2]
/-- the answer -/
def brk (P : Nat → Nat) (n : Nat) : Int32 := if fst (fun m => decide (bsM P n m < 64)) 7 < 7 then nI (bsM P n (fst (fun m => decide (bsM P n m < 64)) 7)) else -nI 1
/-- two steps are left -/
theorem lpT {A R : Type} (F : Nat → A → R) (I : Nat → A → Prop) (N : Nat) (hN : N ≤ 1000000) (hs : ∀ n i a, i < N → I i a → ∃ a', I (i + 1) a' ∧ F (n + 1) a = F n a') (a : A) (h0 : I 0 a) : ∃ a' m, I N a' ∧ F FU a = F (m + 2) a' := by
  have key : ∀ (d i n : Nat) (a : A), i + d = N → d + 1 < n → I i a → ∃ a' m, I N a' ∧ F n a = F (m + 2) a' := by
    intro d
    induction d with
    | zero =>
      intro i n a hi hn h
      obtain ⟨k, rfl⟩ : ∃ k, n = k + 2 := ⟨n - 2, by omega⟩
      have : i = N := by omega
      subst this
      exact ⟨a, k, h, rfl⟩
    | succ d ih =>
      intro i n a hi hn h
      obtain ⟨k, rfl⟩ : ∃ k, n = k + 1 := ⟨n - 1, by omega⟩
      obtain ⟨a', h1, h2⟩ := hs k i a (by omega) h
      obtain ⟨a2, m, h3, h4⟩ := ih (i + 1) k a' (by omega) (by omega) h1
      exact ⟨a2, m, h3, h2.trans h4⟩
  have := FU_big
  exact key N 0 FU a (by omega) (by omega) h0
theorem bsM_le {P : Nat → Nat} {n m : Nat} : bsM P n m ≤ 64 := fst_le _ 64
section
variable {σ : xSt} {n : Nat} {P : Nat → Nat}
theorem e7_breakBy (hP : MP σ n P) {m : Nat} (hm : m ≤ 6) : ∃ σ', f_X7_breakBy (nI m) σ = some (if bsM P n m < 64 then nI (bsM P n m) else -nI 1, σ') ∧ Fr sA σ σ' := by
  have hl := fst_le (fun S => decide (pc S 16 = m) && acB P n S) 64
  have hno := fst_no (fun S => decide (pc S 16 = m) && acB P n S) 64
  have hyes := fst_yes (fun S => decide (pc S 16 = m) && acB P n S) 64
  change bsM P n m ≤ 64 at hl
  change ∀ k, k < bsM P n m → _ at hno
  have stepS : ∀ (τ : xSt) (S : Nat), Fr sA σ τ → S < 64 → (decide (pc S 16 = m) && acB P n S) = false → ∃ τ', Fr sA σ τ' ∧ ∀ q k, f_X7_breakBy_2 (nI m) k (q + 1) (nI S) τ = f_X7_breakBy_2 (nI m) k q (nI (S + 1)) τ' := by
    intro τ S hf hS hb
    have z := e7_size (big64 hS) τ
    have pl := pc_64 S hS
    have c0 : ¬ 64 ≤ S := by omega
    by_cases q1 : pc S 16 = m
    · have hb' : acB P n S = false := by simpa [q1] using hb
      obtain ⟨τ1, a1, a2, a3, a4, a5⟩ := e7_laySegments (hP.frA hf) hS
      have hl14 := sgs_len (C := S) hP.2.1 (fun k hk => (hP.2.2 k hk).2)
      have r := e7_isRing a2.1 hl14 a4
      have hx : exB (fun s => (far (bel P n (sgs P n S 6)) (sgs P n S 6).length s).testBit s) (sgs P n S 6).length = true := by
        rw [acB] at hb'; simpa using hb'
      rw [hx] at r
      refine ⟨τ1, hf.tr a5, fun q k => ?_⟩
      rw [q1] at z
      simp (disch := omega) only [lit_nI, nI_leS, nI_ltS, nI_eqS, nI_clS, nI_add, mulI, tI_leS, tI_ltS, tI_eqS, tI_m1, nI_m1, tI_eqn, tI_eqn2, tI_ltn, tI_nle, tI_len, tI_nlt, gi_nI, gi_lit, gz_nI, bnd_some, jn_def, vb_def, if_true, if_false, b2i_0, b2i_1, b2i_t, b2i_f, gb_b2i, gb_n0, gb_n1, bitN, bit0N, sh1N, orI, andI, e7_within, ite_self, n10, n01, Bool.true_eq_false, Bool.false_eq_true, f_X7_breakBy_2, c0, z, a1, r]
    · refine ⟨τ, hf, fun q k => ?_⟩
      generalize pc S 16 = y at *
      simp (disch := omega) only [lit_nI, nI_leS, nI_ltS, nI_eqS, nI_clS, nI_add, mulI, tI_leS, tI_ltS, tI_eqS, tI_m1, nI_m1, tI_eqn, tI_eqn2, tI_ltn, tI_nle, tI_len, tI_nlt, gi_nI, gi_lit, gz_nI, bnd_some, jn_def, vb_def, if_true, if_false, b2i_0, b2i_1, b2i_t, b2i_f, gb_b2i, gb_n0, gb_n1, bitN, bit0N, sh1N, orI, andI, e7_within, ite_self, n10, n01, Bool.true_eq_false, Bool.false_eq_true, f_X7_breakBy_2, c0, z, q1]
  obtain ⟨⟨y, τ⟩, q, ⟨i1, i2⟩, i3⟩ := lpS (fun q (x : Int32 × xSt) => f_X7_breakBy_2 (nI m) (fun s14 => some ((-1), s14)) q x.1 x.2) (fun i y => y.1 = nI i ∧ Fr sA σ y.2) (bsM P n m) (by omega) (fun q i y hi hI => by
    obtain ⟨y1, τ⟩ := y
    obtain ⟨i1, i2⟩ := hI
    dsimp only at i1 i2 ⊢
    subst i1
    obtain ⟨τ', g1, g2⟩ := stepS τ i i2 (by omega) (hno i hi)
    exact ⟨(nI (i + 1), τ'), ⟨rfl, g1⟩, g2 q _⟩) (nI 0, σ) ⟨rfl, Fr.rf⟩
  dsimp only at i1 i2 i3
  subst i1
  rcases Nat.lt_or_ge (bsM P n m) 64 with h | h
  · have hy : (decide (pc (bsM P n m) 16 = m) && acB P n (bsM P n m)) = true := hyes h
    rw [Bool.and_eq_true, decide_eq_true_eq] at hy
    generalize bsM P n m = S at *
    have z := e7_size (big64 h) τ
    rw [hy.1] at z
    obtain ⟨τ1, a1, a2, a3, a4, a5⟩ := e7_laySegments (hP.frA i2) h
    have hl14 := sgs_len (C := S) hP.2.1 (fun k hk => (hP.2.2 k hk).2)
    have r := e7_isRing a2.1 hl14 a4
    have hx : exB (fun s => (far (bel P n (sgs P n S 6)) (sgs P n S 6).length s).testBit s) (sgs P n S 6).length = false := by
      have := hy.2; rw [acB] at this; simpa using this
    rw [hx] at r
    have c0 : ¬ 64 ≤ S := by omega
    refine ⟨τ1, ?_, i2.tr a5⟩
    rw [if_pos h, f_X7_breakBy]
    refine Eq.trans i3 ?_
    simp (disch := omega) only [lit_nI, nI_leS, nI_ltS, nI_eqS, nI_clS, nI_add, mulI, tI_leS, tI_ltS, tI_eqS, tI_m1, nI_m1, tI_eqn, tI_eqn2, tI_ltn, tI_nle, tI_len, tI_nlt, gi_nI, gi_lit, gz_nI, bnd_some, jn_def, vb_def, if_true, if_false, b2i_0, b2i_1, b2i_t, b2i_f, gb_b2i, gb_n0, gb_n1, bitN, bit0N, sh1N, orI, andI, e7_within, ite_self, n10, n01, Bool.true_eq_false, Bool.false_eq_true, f_X7_breakBy_2, c0, z, a1, r]
  · refine ⟨τ, ?_, i2⟩
    rw [if_neg (by omega), f_X7_breakBy]
    refine Eq.trans i3 ?_
    have hS : bsM P n m = 64 := by omega
    rw [hS]
    simp (disch := omega) only [lit_nI, nI_leS, nI_ltS, nI_eqS, nI_clS, nI_add, mulI, tI_leS, tI_ltS, tI_eqS, tI_m1, nI_m1, tI_eqn, tI_eqn2, tI_ltn, tI_nle, tI_len, tI_nlt, gi_nI, gi_lit, gz_nI, bnd_some, jn_def, vb_def, if_true, if_false, b2i_0, b2i_1, b2i_t, b2i_f, gb_b2i, gb_n0, gb_n1, bitN, bit0N, sh1N, orI, andI, e7_within, ite_self, n10, n01, Bool.true_eq_false, Bool.false_eq_true, f_X7_breakBy_2, Nat.le_refl]
theorem e7_breakNow (hP : MP σ n P) {C : Nat} (hC : C < 64) (hc : σ.1 0 2 = nI C) : ∃ σ', f_X7_breakNow σ = some (brk P n, σ') ∧ HM σ' (sgs P n C 6) ∧ MB σ' (sgs P n C 6).length (bel P n (sgs P n C 6)) ∧ MF σ' (sgs P n C 6).length (far (bel P n (sgs P n C 6)) (sgs P n C 6).length) ∧ Fr sA σ σ' := by
  have hl := fst_le (fun m => decide (bsM P n m < 64)) 7
  have hno := fst_no (fun m => decide (bsM P n m < 64)) 7
  have hyes := fst_yes (fun m => decide (bsM P n m < 64)) 7
  rw [brk]
  generalize fst (fun m => decide (bsM P n m < 64)) 7 = e at *
  obtain ⟨⟨y, z, τ⟩, q, ⟨i1, i2, i3⟩, i4⟩ := lpT (fun q (x : Int32 × Int32 × xSt) => f_X7_breakNow_4 (fun e3 s4 => bnd (f_X7_laySegments (s4.1 0 2) s4) (fun r5 s6 => some (e3, s6))) q x.1 x.2.1 x.2.2) (fun i y => y.1 = -nI 1 ∧ y.2.1 = nI i ∧ Fr sA σ y.2.2) e (by omega) (fun q i y hi hI => by
    obtain ⟨y1, y2, τ⟩ := y
    obtain ⟨i1, i2, i3⟩ := hI
    dsimp only at i1 i2 i3 ⊢
    subst i1 i2
    have c0 : ¬ 6 < i := by omega
    obtain ⟨τ', g1, g2⟩ := e7_breakBy (hP.frA i3) (show i ≤ 6 by omega)
    have hb := hno i hi
    simp only [decide_eq_false_iff_not] at hb
    rw [if_neg hb] at g1
    refine ⟨(-nI 1, nI (i + 1), τ'), ⟨rfl, rfl, i3.tr g2⟩, ?_⟩
    simp (disch := omega) only [lit_nI, nI_leS, nI_ltS, nI_eqS, nI_clS, nI_add, mulI, tI_leS, tI_ltS, tI_eqS, tI_m1, nI_m1, tI_eqn, tI_eqn2, tI_ltn, tI_nle, tI_len, tI_nlt, gi_nI, gi_lit, gz_nI, bnd_some, jn_def, vb_def, if_true, if_false, b2i_0, b2i_1, b2i_t, b2i_f, gb_b2i, gb_n0, gb_n1, bitN, bit0N, sh1N, orI, andI, e7_within, ite_self, n10, n01, Bool.true_eq_false, Bool.false_eq_true, f_X7_breakNow_4, c0, g1, eq_self]) (-nI 1, nI 0, σ) ⟨rfl, rfl, Fr.rf⟩
  dsimp only at i1 i2 i3 i4
  subst i1 i2
  rcases Nat.lt_or_ge e 7 with h | h
  · have hb := hyes h
    simp only [decide_eq_true_eq] at hb
    obtain ⟨τ1, g1, g2⟩ := e7_breakBy (hP.frA i3) (show e ≤ 6 by omega)
    rw [if_pos hb] at g1
    have f1 := i3.tr g2
    have hc1 : τ1.1 0 2 = nI C := (f1.1 0 2 rfl).trans hc
    obtain ⟨τ2, a1, a2, a3, a4, a5⟩ := e7_laySegments (hP.frA f1) hC
    refine ⟨τ2, ?_, a2, a3, a4, f1.tr a5⟩
    rw [if_pos h, f_X7_breakNow]
    refine Eq.trans i4 ?_
    have c0 : ¬ 6 < e := by omega
    generalize bsM P n e = S at *
    simp (disch := omega) only [lit_nI, nI_leS, nI_ltS, nI_eqS, nI_clS, nI_add, mulI, tI_leS, tI_ltS, tI_eqS, tI_m1, nI_m1, tI_eqn, tI_eqn2, tI_ltn, tI_nle, tI_len, tI_nlt, gi_nI, gi_lit, gz_nI, bnd_some, jn_def, vb_def, if_true, if_false, b2i_0, b2i_1, b2i_t, b2i_f, gb_b2i, gb_n0, gb_n1, bitN, bit0N, sh1N, orI, andI, e7_within, ite_self, n10, n01, Bool.true_eq_false, Bool.false_eq_true, f_X7_breakNow_4, c0, g1, eq_self]
    by_cases c1 : 6 < e + 1
    · simp (disch := omega) only [lit_nI, nI_leS, nI_ltS, nI_eqS, nI_clS, nI_add, mulI, tI_leS, tI_ltS, tI_eqS, tI_m1, nI_m1, tI_eqn, tI_eqn2, tI_ltn, tI_nle, tI_len, tI_nlt, gi_nI, gi_lit, gz_nI, bnd_some, jn_def, vb_def, if_true, if_false, b2i_0, b2i_1, b2i_t, b2i_f, gb_b2i, gb_n0, gb_n1, bitN, bit0N, sh1N, orI, andI, e7_within, ite_self, n10, n01, Bool.true_eq_false, Bool.false_eq_true, c1, hc1, a1]
    · simp (disch := omega) only [lit_nI, nI_leS, nI_ltS, nI_eqS, nI_clS, nI_add, mulI, tI_leS, tI_ltS, tI_eqS, tI_m1, nI_m1, tI_eqn, tI_eqn2, tI_ltn, tI_nle, tI_len, tI_nlt, gi_nI, gi_lit, gz_nI, bnd_some, jn_def, vb_def, if_true, if_false, b2i_0, b2i_1, b2i_t, b2i_f, gb_b2i, gb_n0, gb_n1, bitN, bit0N, sh1N, orI, andI, e7_within, ite_self, n10, n01, Bool.true_eq_false, Bool.false_eq_true, c1, hc1, a1]
  · have he : e = 7 := by omega
    have hc1 : τ.1 0 2 = nI C := (i3.1 0 2 rfl).trans hc
    obtain ⟨τ2, a1, a2, a3, a4, a5⟩ := e7_laySegments (hP.frA i3) hC
    refine ⟨τ2, ?_, a2, a3, a4, i3.tr a5⟩
    rw [if_neg (by omega), f_X7_breakNow]
    refine Eq.trans i4 ?_
    have c0 : 6 < e := by omega
    simp (disch := omega) only [lit_nI, nI_leS, nI_ltS, nI_eqS, nI_clS, nI_add, mulI, tI_leS, tI_ltS, tI_eqS, tI_m1, nI_m1, tI_eqn, tI_eqn2, tI_ltn, tI_nle, tI_len, tI_nlt, gi_nI, gi_lit, gz_nI, bnd_some, jn_def, vb_def, if_true, if_false, b2i_0, b2i_1, b2i_t, b2i_f, gb_b2i, gb_n0, gb_n1, bitN, bit0N, sh1N, orI, andI, e7_within, ite_self, n10, n01, Bool.true_eq_false, Bool.false_eq_true, f_X7_breakNow_4, c0, hc1, a1]
end
section
variable {σ : xSt} {n : Nat} {P : Nat → Nat}
theorem xn_le {a b : Nat} (h : b < a) (ha : a < 2147483648) : ¬ nI a ≤ nI b := by rw [nI_leS ha (by omega)]; omega
theorem xy_le {a b : Nat} (h : a ≤ b) (hb : b < 2147483648) : nI a ≤ nI b := by rw [nI_leS (by omega) hb]; exact h
theorem xn_lt {a b : Nat} (h : b ≤ a) (ha : a < 2147483648) : ¬ nI a < nI b := by rw [nI_ltS ha (by omega)]; omega
theorem xy_lt {a b : Nat} (h : a < b) (hb : b < 2147483648) : nI a < nI b := by rw [nI_ltS (by omega) hb]; exact h
theorem xn_s (i : Nat) : nI i + 1 = nI (i + 1) := nI_add i 1
theorem e0_splittable (hP : CP σ n P) : f_X0_splittableNets σ = some (nI (spl P n), σ) := by
  rw [f_X0_splittableNets, spl]
  have hn := hP.2.1
  refine lpF (fun m (x : Int32 × Int32) => f_X0_splittableNets_4 (fun e10 s11 => some (e10, s11)) m x.1 x.2 σ) (fun i => (nI (cmk (fun w => decide (2 < cnt (hp P w) n)) i), nI i)) 6 _ (by omega) (fun m i hi => ?_) (fun m => ?_)
  · have c0 : ¬ (6 : Int32) ≤ nI i := xn_le (a := 6) (by omega) (by omega)
    have hc := e0_columnsWith hP hi
    have hb := e_bcc (p := hp P i) (n := n) (cmk14 (by omega)) (by omega) σ
    have hle := cnt_le (hp P i) n
    show f_X0_splittableNets_4 _ (m + 1) _ _ _ = f_X0_splittableNets_4 _ m _ _ _
    rw [f_X0_splittableNets_4, if_neg c0, hc, bnd_some, hb, bnd_some, jn_def]
    have e : cmk (fun w => decide (2 < cnt (hp P w) n)) (i + 1) = cmk (fun w => decide (2 < cnt (hp P w) n)) i ||| (if decide (2 < cnt (hp P i) n) = true then 2 ^ i else 0) := rfl
    rw [e]
    by_cases q : 2 < cnt (hp P i) n
    · have c1 : ¬ nI (cnt (hp P i) n) ≤ (2 : Int32) := xn_le (b := 2) (by omega) (by omega)
      rw [if_neg c1, vb_def, sh1 (by omega), orI, if_pos (decide_eq_true q)]
      dsimp only
      rw [xn_s]
    · have c1 : nI (cnt (hp P i) n) ≤ (2 : Int32) := xy_le (b := 2) (by omega) (by omega)
      rw [if_pos c1, if_neg (by simpa using q), Nat.or_zero]
      dsimp only
      rw [xn_s]
  · show f_X0_splittableNets_4 _ (m + 1) _ _ _ = _
    rw [f_X0_splittableNets_4, if_pos (show (6 : Int32) ≤ nI 6 by decide)]
theorem e3_hasCycle {o : Nat} {L : List (Nat × Nat × Nat)} (h : CW σ o n P L) : f_X3_hasCycle o σ = some (b2i (exB (fun s => (far (bel P n L) L.length s).testBit s) L.length), σ) := by
  have hr := ring_iff (B := bel P n L) (N := L.length) (fun s _ t => bel_lt s t)
  by_cases q : cyc (bel P n L) L.length
  · rw [hr.mpr q]
    have := (h.2.2.2.2 q).1
    simp (disch := omega) only [lit_nI, nI_leS, nI_ltS, nI_eqS, nI_clS, nI_add, mulI, tI_leS, tI_ltS, tI_eqS, tI_m1, nI_m1, tI_eqn, tI_eqn2, tI_ltn, tI_nle, tI_len, tI_nlt, gi_nI, gi_lit, gz_nI, bnd_some, jn_def, vb_def, if_true, if_false, b2i_0, b2i_1, b2i_t, b2i_f, gb_b2i, gb_n0, gb_n1, bitN, bit0N, sh1N, orI, andI, e7_within, ite_self, n10, n01, Bool.true_eq_false, Bool.false_eq_true, f_X3_hasCycle, this, eq_self]
  · have q' : exB (fun s => (far (bel P n L) L.length s).testBit s) L.length = false := by
      rw [Bool.eq_false_iff]; exact fun e => q (hr.mp e)
    rw [q']
    have h1 := (h.2.2.2.1 q).1
    have hl := h.1.1.2.1
    have hV : ¬ cyc (prd (bel P n L) L.length) L.length := fun e => q ((cyc_rev (fun s t => prd_eg)).mpr e)
    have h2 := rnd_le hV
    generalize rnd (prd (bel P n L) L.length) L.length = r at *
    simp (disch := omega) only [lit_nI, nI_leS, nI_ltS, nI_eqS, nI_clS, nI_add, mulI, tI_leS, tI_ltS, tI_eqS, tI_m1, nI_m1, tI_eqn, tI_eqn2, tI_ltn, tI_nle, tI_len, tI_nlt, gi_nI, gi_lit, gz_nI, bnd_some, jn_def, vb_def, if_true, if_false, b2i_0, b2i_1, b2i_t, b2i_f, gb_b2i, gb_n0, gb_n1, bitN, bit0N, sh1N, orI, andI, e7_within, ite_self, n10, n01, Bool.true_eq_false, Bool.false_eq_true, f_X3_hasCycle, h1]
def bcP (P : Nat → Nat) (n m S : Nat) : Bool := decide (pc S 16 = m) && (decide (S &&& spl P n = S) && acB P n S)
theorem e6_brk18 (hP : CP σ n P) {m : Nat} (hm : m ≤ 6) (k : xSt → Option (Int32 × xSt)) : ∃ σ', f_X6_breakingSet_18 (nI (spl P n)) (nI m) k FU (nI 0) σ = (if bsC P n m < 64 then some (nI (bsC P n m), σ') else k σ') ∧ Fr (sC 14) σ σ' := by
  have hl := fst_le (bcP P n m) 64
  have hno := fst_no (bcP P n m) 64
  have hyes := fst_yes (bcP P n m) 64
  have hsp := spl_lt (P := P) (n := n)
  change bsC P n m ≤ 64 at hl
  change ∀ k, k < bsC P n m → _ at hno
  have step : ∀ (τ : xSt) (S : Nat), Fr (sC 14) σ τ → S < 64 → ∃ τ', Fr (sC 14) σ τ' ∧ ∀ q, f_X6_breakingSet_18 (nI (spl P n)) (nI m) k (q + 1) (nI S) τ = if bcP P n m S then some (nI S, τ') else f_X6_breakingSet_18 (nI (spl P n)) (nI m) k q (nI (S + 1)) τ' := by
    intro τ S hf hS
    have z := eJ_bitCount (show S < 16384 by omega) τ
    have pl := pc_64 S hS
    have c0 : ¬ (64 : Int32) ≤ nI S := xn_le (a := 64) (by omega) (by omega)
    by_cases q1 : pc S 16 = m
    · have e1 : nI (pc S 16) = nI m := by rw [q1]
      by_cases q2 : S &&& spl P n = S
      · have e2 : nI S &&& (nI (spl P n) ^^^ (-1)) = 0 := by
          have := sub_iff hS hsp
          exact this.mpr q2
        obtain ⟨τ1, a1, a2, a3⟩ := e3_build (o := 14) (by omega) (hP.fr (o := 14) (by omega) hf) hS
        have r := e3_hasCycle a2
        refine ⟨τ1, hf.tr a3, fun q => ?_⟩
        rw [f_X6_breakingSet_18, if_neg c0, z, bnd_some, jn_def, if_pos e1, if_pos e2, a1, bnd_some, r, bnd_some]
        have e3 : bcP P n m S = acB P n S := by simp [bcP, q1, q2]
        rw [e3, acB]
        cases exB (fun s => (far (bel P n (sgs P n S 6)) (sgs P n S 6).length s).testBit s) (sgs P n S 6).length
        · rfl
        · rw [if_neg (show ¬ b2i true = 0 by decide), if_neg (by decide), lit_nI, nI_add]
      · have e2 : ¬ nI S &&& (nI (spl P n) ^^^ (-1)) = 0 := by
          have := sub_iff hS hsp
          exact fun e => q2 (this.mp e)
        refine ⟨τ, hf, fun q => ?_⟩
        rw [f_X6_breakingSet_18, if_neg c0, z, bnd_some, jn_def, if_pos e1, if_neg e2]
        have e3 : bcP P n m S = false := by simp [bcP, q2]
        rw [e3, if_neg (by decide), lit_nI, nI_add]
    · have e1 : ¬ nI (pc S 16) = nI m := by rw [nI_eqS (by omega) (by omega)]; exact q1
      refine ⟨τ, hf, fun q => ?_⟩
      rw [f_X6_breakingSet_18, if_neg c0, z, bnd_some, jn_def, if_neg e1]
      have e3 : bcP P n m S = false := by simp [bcP, q1]
      rw [e3, if_neg (by decide), lit_nI, nI_add]
  obtain ⟨⟨y, τ⟩, q, ⟨i1, i2⟩, i3⟩ := lpS (fun q (x : Int32 × xSt) => f_X6_breakingSet_18 (nI (spl P n)) (nI m) k q x.1 x.2) (fun i y => y.1 = nI i ∧ Fr (sC 14) σ y.2) (bsC P n m) (by omega) (fun q i y hi hI => by
    obtain ⟨y1, τ⟩ := y
    obtain ⟨i1, i2⟩ := hI
    dsimp only at i1 i2 ⊢
    subst i1
    obtain ⟨τ', g1, g2⟩ := step τ i i2 (by omega)
    refine ⟨(nI (i + 1), τ'), ⟨rfl, g1⟩, ?_⟩
    rw [g2 q, hno i hi, if_neg (by decide)]) (nI 0, σ) ⟨rfl, Fr.rf⟩
  dsimp only at i1 i2 i3
  subst i1
  rcases Nat.lt_or_ge (bsC P n m) 64 with h | h
  · have hy : bcP P n m (bsC P n m) = true := hyes h
    obtain ⟨τ', g1, g2⟩ := step τ _ i2 h
    refine ⟨τ', ?_, g1⟩
    rw [if_pos h]
    refine Eq.trans i3 ?_
    rw [g2 q, hy, if_pos rfl]
  · refine ⟨τ, ?_, i2⟩
    rw [if_neg (by omega)]
    refine Eq.trans i3 ?_
    have hS : bsC P n m = 64 := by omega
    rw [hS, f_X6_breakingSet_18, if_pos (show (64 : Int32) ≤ nI 64 by decide)]
theorem e6_breakingSet (hP : CP σ n P) : ∃ σ', f_X6_breakingSet σ = some (brk P n, σ') ∧ Fr (sC 14) σ σ' := by
  have hl := fst_le (fun m => decide (bsM P n m < 64)) 7
  have hno := fst_no (fun m => decide (bsM P n m < 64)) 7
  have hyes := fst_yes (fun m => decide (bsM P n m < 64)) 7
  rw [brk, f_X6_breakingSet, e0_splittable hP, bnd_some]
  generalize fst (fun m => decide (bsM P n m < 64)) 7 = e at *
  have hb64 : ∀ j, j < e → bsM P n j = 64 := fun j hj => by
    have h1 := hno j hj
    simp only [decide_eq_false_iff_not] at h1
    have h2 := bsM_le (P := P) (n := n) (m := j)
    omega
  obtain ⟨⟨y, τ⟩, q, ⟨i1, i2⟩, i3⟩ := lpS (fun q (x : Int32 × xSt) => f_X6_breakingSet_10 (nI (spl P n)) (fun s17 => some ((-1), s17)) q x.1 x.2) (fun i y => y.1 = nI i ∧ Fr (sC 14) σ y.2) e (by omega) (fun q i y hi hI => by
    obtain ⟨y1, τ⟩ := y
    obtain ⟨i1, i2⟩ := hI
    dsimp only at i1 i2 ⊢
    subst i1
    have c0 : ¬ (6 : Int32) < nI i := xn_lt (a := 6) (by omega) (by omega)
    obtain ⟨τ', g1, g2⟩ := e6_brk18 (hP.fr (o := 14) (by omega) i2) (show i ≤ 6 by omega) (fun s16 => f_X6_breakingSet_10 (nI (spl P n)) (fun s17 => some ((-1), s17)) q (nI i + 1) s16)
    have hbc : bsC P n i = 64 := (bs_eq (fun j hj => hb64 j (by omega))).trans (hb64 i hi)
    refine ⟨(nI (i + 1), τ'), ⟨rfl, i2.tr g2⟩, ?_⟩
    rw [f_X6_breakingSet_10, if_neg c0]
    refine Eq.trans g1 ?_
    rw [hbc, if_neg (by decide), lit_nI, nI_add]) (nI 0, σ) ⟨rfl, Fr.rf⟩
  dsimp only at i1 i2 i3
  subst i1
  rcases Nat.lt_or_ge e 7 with h | h
  · have hb := hyes h
    simp only [decide_eq_true_eq] at hb
    have c0 : ¬ (6 : Int32) < nI e := xn_lt (a := 6) (by omega) (by omega)
    obtain ⟨τ', g1, g2⟩ := e6_brk18 (hP.fr (o := 14) (by omega) i2) (show e ≤ 6 by omega) (fun s16 => f_X6_breakingSet_10 (nI (spl P n)) (fun s17 => some ((-1), s17)) q (nI e + 1) s16)
    have hbc : bsC P n e = bsM P n e := bs_eq hb64
    refine ⟨τ', ?_, i2.tr g2⟩
    refine Eq.trans i3 ?_
    rw [f_X6_breakingSet_10, if_neg c0]
    refine Eq.trans g1 ?_
    rw [hbc, if_pos hb, if_pos h]
  · have he : e = 7 := by omega
    subst he
    refine ⟨τ, ?_, i2⟩
    refine Eq.trans i3 ?_
    rw [f_X6_breakingSet_10, if_pos (show (6 : Int32) < nI 7 by decide), if_neg (by omega)]
    rfl
end
