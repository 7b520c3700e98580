/-! ===== the class finds the cycle ===== -/
def stI (d : Nat) : Int32 := if d = 0 then -nI 1 else nI d
section
variable {σ : xSt} {o N : Nat} {B : Nat → Nat}
theorem bAny_lt {x : Nat} : ∀ {N : Nat}, (∀ u, u < N → B u < 16384) → bAny B x N < 16384
  | 0, _ => by show 0 < 16384; omega
  | N + 1, h => by
    have ih := bAny_lt (x := x) (N := N) (fun u hu => h u (by omega))
    show (if x.testBit N then bAny B x N ||| B N else bAny B x N) < 16384
    split
    · exact or_lt (n := 14) ih (h N (by omega))
    · exact ih
theorem rs_lt {s : Nat} (hs : s < N) (h : ∀ u, u < N → B u < 16384) : ∀ k, rs B N s k < 16384
  | 0 => h s hs
  | k + 1 => or_lt (n := 14) (rs_lt hs h k) (bAny_lt h)
theorem e3_belowAny (h0 : σ.1 o 8 = nI N) (hN : N ≤ 14) (hB : CB σ o N B) {x : Nat} (hx : x < 16384) : f_X3_belowAny o (nI x) σ = some (nI (bAny B x N), σ) := by
  rw [f_X3_belowAny]
  refine lpF (fun m (a : Int32 × Int32) => f_X3_belowAny_4 o _ _ m a.1 a.2 σ) (fun i => (nI (bAny B x i), nI i)) N _ (by omega) (fun m i hi => ?_) (fun m => ?_)
  · have c0 : ¬ N ≤ i := by omega
    obtain ⟨b1, b2⟩ := hB i hi
    have e : bAny B x (i + 1) = if x.testBit i then bAny B x i ||| B i else bAny B x i := rfl
    rw [e]
    simp (disch := omega) only [lit_nI, nI_leS, nI_ltS, nI_eqS, nI_clS, nI_add, mulI, tI_leS, tI_ltS, tI_eqS, tI_m1, nI_m1, tI_eqn, tI_eqn2, tI_ltn, tI_nle, tI_len, tI_nlt, gi_nI, gi_lit, gz_nI, bnd_some, jn_def, vb_def, if_true, if_false, b2i_0, b2i_1, b2i_t, b2i_f, gb_b2i, gb_n0, gb_n1, bitN, bit0N, sh1N, orI, andI, e7_within, ite_self, n10, n01, Bool.true_eq_false, Bool.false_eq_true, f_X3_belowAny_4, h0, c0, b1]
    rcases Bool.eq_false_or_eq_true (x.testBit i) with b3 | b3 <;> simp [b3]
  · simp (disch := omega) only [lit_nI, nI_leS, nI_ltS, nI_eqS, nI_clS, nI_add, mulI, tI_leS, tI_ltS, tI_eqS, tI_m1, nI_m1, tI_eqn, tI_eqn2, tI_ltn, tI_nle, tI_len, tI_nlt, gi_nI, gi_lit, gz_nI, bnd_some, jn_def, vb_def, if_true, if_false, b2i_0, b2i_1, b2i_t, b2i_f, gb_b2i, gb_n0, gb_n1, bitN, bit0N, sh1N, orI, andI, e7_within, ite_self, n10, n01, Bool.true_eq_false, Bool.false_eq_true, f_X3_belowAny_4, h0, Nat.le_refl]
theorem e3_steps (h0 : σ.1 o 8 = nI N) (hN : N ≤ 14) (hB : CB σ o N B) {s t : Nat} (hs : s < N) (ht : t < N) : f_X3_steps o (nI s) (nI t) σ = some (stI (sd B N s t), σ) := by
  obtain ⟨b1, b2⟩ := hB s hs
  have hlt := rs_lt hs (fun u hu => (hB u hu).2)
  have hle := fst_le (fun k => (rs B N s k).testBit t) N
  have hno : ∀ k, k < fst (fun k => (rs B N s k).testBit t) N → (rs B N s k).testBit t = false := fun k hk => fst_no (fun k => (rs B N s k).testBit t) N k hk
  have hyes : fst (fun k => (rs B N s k).testBit t) N < N → (rs B N s (fst (fun k => (rs B N s k).testBit t) N)).testBit t = true := fun h => fst_yes (fun k => (rs B N s k).testBit t) N h
  have main : ∀ e, e ≤ N → (∀ k, k < e → (rs B N s k).testBit t = false) → (e < N → (rs B N s e).testBit t = true) → f_X3_steps_10 o (nI t) (fun s5 => some ((-1), s5)) FU (nI (rs B N s 0)) (nI 1) σ = some (stI (if e < N then e + 1 else 0), σ) := by
    intro e he h1 h2
    refine lpE (fun m (a : Int32 × Int32) => f_X3_steps_10 o (nI t) (fun s5 => some ((-1), s5)) m a.1 a.2 σ) (fun k => (nI (rs B N s k), nI (k + 1))) N _ e he (by omega) (fun m i hi => ?_) (fun m => ?_)
    · have c0 : ¬ N < i + 1 := by omega
      have l1 := hlt i
      have ee : rs B N s (i + 1) = rs B N s i ||| bAny B (rs B N s i) N := rfl
      rw [ee]
      simp (disch := omega) only [lit_nI, nI_leS, nI_ltS, nI_eqS, nI_clS, nI_add, mulI, tI_leS, tI_ltS, tI_eqS, tI_m1, nI_m1, tI_eqn, tI_eqn2, tI_ltn, tI_nle, tI_len, tI_nlt, gi_nI, gi_lit, gz_nI, bnd_some, jn_def, vb_def, if_true, if_false, b2i_0, b2i_1, b2i_t, b2i_f, gb_b2i, gb_n0, gb_n1, bitN, bit0N, sh1N, orI, andI, e7_within, ite_self, n10, n01, Bool.true_eq_false, Bool.false_eq_true, f_X3_steps_10, h0, c0, h1 i hi, e3_belowAny h0 hN hB l1]
    · have l1 := hlt e
      by_cases q : e < N
      · have c0 : ¬ N < e + 1 := by omega
        have c1 : ¬ e + 1 = 0 := by omega
        simp (disch := omega) only [lit_nI, nI_leS, nI_ltS, nI_eqS, nI_clS, nI_add, mulI, tI_leS, tI_ltS, tI_eqS, tI_m1, nI_m1, tI_eqn, tI_eqn2, tI_ltn, tI_nle, tI_len, tI_nlt, gi_nI, gi_lit, gz_nI, bnd_some, jn_def, vb_def, if_true, if_false, b2i_0, b2i_1, b2i_t, b2i_f, gb_b2i, gb_n0, gb_n1, bitN, bit0N, sh1N, orI, andI, e7_within, ite_self, n10, n01, Bool.true_eq_false, Bool.false_eq_true, f_X3_steps_10, h0, c0, h2 q, q, stI, c1]
      · have c0 : N < e + 1 := by omega
        simp (disch := omega) only [lit_nI, nI_leS, nI_ltS, nI_eqS, nI_clS, nI_add, mulI, tI_leS, tI_ltS, tI_eqS, tI_m1, nI_m1, tI_eqn, tI_eqn2, tI_ltn, tI_nle, tI_len, tI_nlt, gi_nI, gi_lit, gz_nI, bnd_some, jn_def, vb_def, if_true, if_false, b2i_0, b2i_1, b2i_t, b2i_f, gb_b2i, gb_n0, gb_n1, bitN, bit0N, sh1N, orI, andI, e7_within, ite_self, n10, n01, Bool.true_eq_false, Bool.false_eq_true, f_X3_steps_10, h0, c0, q, stI]
  have r := main _ hle hno hyes
  rw [sd]
  simp (disch := omega) only [lit_nI, nI_leS, nI_ltS, nI_eqS, nI_clS, nI_add, mulI, tI_leS, tI_ltS, tI_eqS, tI_m1, nI_m1, tI_eqn, tI_eqn2, tI_ltn, tI_nle, tI_len, tI_nlt, gi_nI, gi_lit, gz_nI, bnd_some, jn_def, vb_def, if_true, if_false, b2i_0, b2i_1, b2i_t, b2i_f, gb_b2i, gb_n0, gb_n1, bitN, bit0N, sh1N, orI, andI, e7_within, ite_self, n10, n01, Bool.true_eq_false, Bool.false_eq_true, f_X3_steps, b1]
  simp (disch := omega) only [lit_nI, nI_leS, nI_ltS, nI_eqS, nI_clS, nI_add, mulI, tI_leS, tI_ltS, tI_eqS, tI_m1, nI_m1, tI_eqn, tI_eqn2, tI_ltn, tI_nle, tI_len, tI_nlt, gi_nI, gi_lit, gz_nI, bnd_some, jn_def, vb_def, if_true, if_false, b2i_0, b2i_1, b2i_t, b2i_f, gb_b2i, gb_n0, gb_n1, bitN, bit0N, sh1N, orI, andI, e7_within, ite_self, n10, n01, Bool.true_eq_false, Bool.false_eq_true] at r
  exact r
theorem stI_eq {a d : Nat} (ha : a < 1000) (hd : d < 1000) : (stI a = nI d) = (a = d ∧ a ≠ 0) := by
  rw [stI]
  by_cases q : a = 0
  · rw [if_pos q]
    apply propext
    constructor
    · intro h
      have := m1_lt (b := d) (by omega)
      rw [h] at this
      exact absurd this (fun q => Int32.lt_irrefl q)
    · rintro ⟨_, h⟩; exact absurd q h
  · rw [if_neg q, nI_eqS (by omega) (by omega)]
    exact propext ⟨fun h => ⟨h, q⟩, fun h => h.1⟩
theorem stI_m1 {a : Nat} (ha : a < 1000) : (stI a = -nI 1) = (a = 0) := by
  rw [stI]
  by_cases q : a = 0
  · rw [if_pos q]; simp [q]
  · rw [if_neg q, nI_m1 (by omega)]; simp [q]
theorem stI_pos {a : Nat} (h : a ≠ 0) : stI a = nI a := if_neg h
/-- the choice of the start -/
def stF (B : Nat → Nat) (N : Nat) : Nat → Nat × Nat := fo (fun s q => if sd B N s s = 0 then q else if q.2 ≤ sd B N s s then q else (s + 1, sd B N s s)) (0, N + 1)
theorem stF_rng {a l : Nat} (h : rng B N a l) : stF B N N = (a + 1, l) := by
  obtain ⟨h1, h2, h3, h4, h5⟩ := h
  have hl : l ≤ N := by rw [← h3]; exact sd_le
  have lo : ∀ i, i ≤ a → l < (stF B N i).2 := by
    intro i
    induction i with
    | zero => intro _; show l < N + 1; omega
    | succ i ih =>
      intro hi
      have ih := ih (by omega)
      show l < (if sd B N i i = 0 then stF B N i else if (stF B N i).2 ≤ sd B N i i then stF B N i else (i + 1, sd B N i i)).2
      by_cases q : sd B N i i = 0
      · rw [if_pos q]; exact ih
      · rw [if_neg q]
        split
        · exact ih
        · exact h5 i (by omega) q
  have hi : ∀ d, a + 1 + d ≤ N → stF B N (a + 1 + d) = (a + 1, l) := by
    intro d
    induction d with
    | zero =>
      intro _
      show (if sd B N a a = 0 then stF B N a else if (stF B N a).2 ≤ sd B N a a then stF B N a else (a + 1, sd B N a a)) = _
      have := lo a (Nat.le_refl a)
      rw [h3, if_neg (by omega), if_neg (by omega)]
    | succ d ih =>
      intro hd
      have ih := ih (by omega)
      show (if sd B N (a + 1 + d) (a + 1 + d) = 0 then stF B N (a + 1 + d) else if (stF B N (a + 1 + d)).2 ≤ sd B N (a + 1 + d) (a + 1 + d) then stF B N (a + 1 + d) else (a + 1 + d + 1, sd B N (a + 1 + d) (a + 1 + d))) = _
      rw [ih]
      by_cases q : sd B N (a + 1 + d) (a + 1 + d) = 0
      · rw [if_pos q]
      · rw [if_neg q, if_pos (h4 _ (by omega) q)]
  have := hi (N - (a + 1)) (by omega)
  rwa [show a + 1 + (N - (a + 1)) = N by omega] at this
theorem stF_le : ∀ i, (stF B N i).1 ≤ i ∧ (stF B N i).2 ≤ N + 1
  | 0 => ⟨Nat.le_refl _, Nat.le_refl _⟩
  | i + 1 => by
    have ih := stF_le i
    have hs : sd B N i i ≤ N := sd_le
    show (if sd B N i i = 0 then stF B N i else if (stF B N i).2 ≤ sd B N i i then stF B N i else (i + 1, sd B N i i)).1 ≤ i + 1 ∧ (if sd B N i i = 0 then stF B N i else if (stF B N i).2 ≤ sd B N i i then stF B N i else (i + 1, sd B N i i)).2 ≤ N + 1
    split
    · exact ⟨by omega, ih.2⟩
    · split
      · exact ⟨by omega, ih.2⟩
      · exact ⟨Nat.le_refl _, by show sd B N i i ≤ N + 1; omega⟩
theorem e2_start (h0 : σ.1 5 8 = nI N) (hN : N ≤ 14) (hB : CB σ 5 N B) (hc : σ.1 5 9 = -nI 1) {a l : Nat} (h : rng B N a l) : f_X2_startOfShortest σ = some (nI a, σ) := by
  have loop : f_X2_startOfShortest_20 (fun e9 s10 => some (e9, s10)) FU (-1) (nI (N + 1)) 0 σ = some (tI (stF B N N).1, σ) := by
    refine lpF (fun m (x : Int32 × Int32 × Int32) => f_X2_startOfShortest_20 (fun e9 s10 => some (e9, s10)) m x.1 x.2.1 x.2.2 σ) (fun i => (tI (stF B N i).1, nI (stF B N i).2, nI i)) N _ (by omega) (fun m i hi => ?_) (fun m => ?_)
    · have c0 : ¬ N ≤ i := by omega
      have hl := stF_le (B := B) (N := N) i
      have hs : sd B N i i ≤ N := sd_le
      have e : stF B N (i + 1) = if sd B N i i = 0 then stF B N i else if (stF B N i).2 ≤ sd B N i i then stF B N i else (i + 1, sd B N i i) := rfl
      rw [e]
      simp (disch := omega) only [lit_nI, nI_leS, nI_ltS, nI_eqS, nI_clS, nI_add, mulI, tI_leS, tI_ltS, tI_eqS, tI_m1, nI_m1, tI_eqn, tI_eqn2, tI_ltn, tI_nle, tI_len, tI_nlt, gi_nI, gi_lit, gz_nI, bnd_some, jn_def, vb_def, if_true, if_false, b2i_0, b2i_1, b2i_t, b2i_f, gb_b2i, gb_n0, gb_n1, bitN, bit0N, sh1N, orI, andI, e7_within, ite_self, n10, n01, Bool.true_eq_false, Bool.false_eq_true, f_X2_startOfShortest_20, h0, c0, e3_steps h0 hN hB hi hi, stI_m1]
      by_cases q : sd B N i i = 0
      · simp [q]
      · rw [stI_pos q]
        by_cases q2 : (stF B N i).2 ≤ sd B N i i
        · have q3 : nI (stF B N i).2 ≤ nI (sd B N i i) := nI_le q2 (by omega)
          simp [q, q2, q3]
        · have q3 : ¬ nI (stF B N i).2 ≤ nI (sd B N i i) := nI_ge (by omega) (by omega)
          simp [q, q2, q3, tI_succ]
    · simp (disch := omega) only [lit_nI, nI_leS, nI_ltS, nI_eqS, nI_clS, nI_add, mulI, tI_leS, tI_ltS, tI_eqS, tI_m1, nI_m1, tI_eqn, tI_eqn2, tI_ltn, tI_nle, tI_len, tI_nlt, gi_nI, gi_lit, gz_nI, bnd_some, jn_def, vb_def, if_true, if_false, b2i_0, b2i_1, b2i_t, b2i_f, gb_b2i, gb_n0, gb_n1, bitN, bit0N, sh1N, orI, andI, e7_within, ite_self, n10, n01, Bool.true_eq_false, Bool.false_eq_true, f_X2_startOfShortest_20, h0, Nat.le_refl]
  have hh : f_X3_hasCycle 5 σ = some (nI 1, σ) := by
    simp (disch := omega) only [lit_nI, nI_leS, nI_ltS, nI_eqS, nI_clS, nI_add, mulI, tI_leS, tI_ltS, tI_eqS, tI_m1, nI_m1, tI_eqn, tI_eqn2, tI_ltn, tI_nle, tI_len, tI_nlt, gi_nI, gi_lit, gz_nI, bnd_some, jn_def, vb_def, if_true, if_false, b2i_0, b2i_1, b2i_t, b2i_f, gb_b2i, gb_n0, gb_n1, bitN, bit0N, sh1N, orI, andI, e7_within, ite_self, n10, n01, Bool.true_eq_false, Bool.false_eq_true, f_X3_hasCycle, hc]
  rw [stF_rng h, tI_succ] at loop
  simp (disch := omega) only [lit_nI, nI_leS, nI_ltS, nI_eqS, nI_clS, nI_add, mulI, tI_leS, tI_ltS, tI_eqS, tI_m1, nI_m1, tI_eqn, tI_eqn2, tI_ltn, tI_nle, tI_len, tI_nlt, gi_nI, gi_lit, gz_nI, bnd_some, jn_def, vb_def, if_true, if_false, b2i_0, b2i_1, b2i_t, b2i_f, gb_b2i, gb_n0, gb_n1, bitN, bit0N, sh1N, orI, andI, e7_within, ite_self, n10, n01, Bool.true_eq_false, Bool.false_eq_true] at loop
  simp (disch := omega) only [lit_nI, nI_leS, nI_ltS, nI_eqS, nI_clS, nI_add, mulI, tI_leS, tI_ltS, tI_eqS, tI_m1, nI_m1, tI_eqn, tI_eqn2, tI_ltn, tI_nle, tI_len, tI_nlt, gi_nI, gi_lit, gz_nI, bnd_some, jn_def, vb_def, if_true, if_false, b2i_0, b2i_1, b2i_t, b2i_f, gb_b2i, gb_n0, gb_n1, bitN, bit0N, sh1N, orI, andI, e7_within, ite_self, n10, n01, Bool.true_eq_false, Bool.false_eq_true, f_X2_startOfShortest, hh, h0]
  exact loop
/-- the ring, place by place -/
def rg (B : Nat → Nat) (N a l : Nat) : Nat → Nat
  | 0 => a
  | j + 1 => fst (fun t => (B (rg B N a l j)).testBit t && decide (sd B N t a = l - (j + 1))) N
theorem rg_ok (hBb : ∀ s, s < N → ∀ t, (B s).testBit t = true → t < N) {a l : Nat} (h : rng B N a l) : ∀ j, j < l → rg B N a l j < N ∧ wk B N j a (rg B N a l j) ∧ wk B N (l - j) (rg B N a l j) a
  | 0, _ => ⟨h.1, ⟨rfl, h.1⟩, by rw [Nat.sub_zero]; exact rng_wk hBb h⟩
  | j + 1, hj => by
    obtain ⟨i1, i2, i3⟩ := rg_ok hBb h j (by omega)
    rw [show l - j = (l - (j + 1)) + 1 by omega] at i3
    obtain ⟨u, u1, u2⟩ := i3
    have hu := (nxt_iff hBb h hj i2 u1).mpr u2
    have e : rg B N a l (j + 1) = fst (fun t => (B (rg B N a l j)).testBit t && decide (sd B N t a = l - (j + 1))) N := rfl
    have hlt : rg B N a l (j + 1) < N := by
      rw [e]
      rcases Nat.lt_or_ge (fst (fun t => (B (rg B N a l j)).testBit t && decide (sd B N t a = l - (j + 1))) N) N with hh | hh
      · exact hh
      · have := fst_no (fun t => (B (rg B N a l j)).testBit t && decide (sd B N t a = l - (j + 1))) N u (by have := u1.2.2; omega)
        simp [u1.1, hu] at this
    have hy := fst_yes (fun t => (B (rg B N a l j)).testBit t && decide (sd B N t a = l - (j + 1))) N (by rw [← e]; exact hlt)
    rw [← e] at hy
    simp only [Bool.and_eq_true, decide_eq_true_eq] at hy
    have he : eg B N (rg B N a l j) (rg B N a l (j + 1)) := ⟨hy.1, i1, hlt⟩
    exact ⟨hlt, wk_app i2 (wk_1 he), (nxt_iff hBb h hj i2 he).mp hy.2⟩
theorem e2_next (h0 : σ.1 5 8 = nI N) (hN : N ≤ 14) (hB : CB σ 5 N B) {u a d : Nat} (hu : u < N) (ha : a < N) (hd : d < 100) : f_X2_next (nI u) (nI a) (nI d) σ = some (if fst (fun t => (B u).testBit t && decide (sd B N t a = d ∧ sd B N t a ≠ 0)) N < N then nI (fst (fun t => (B u).testBit t && decide (sd B N t a = d ∧ sd B N t a ≠ 0)) N) else -nI 1, σ) := by
  obtain ⟨p, hp⟩ : ∃ p : Nat → Bool, (fun t => (B u).testBit t && decide (sd B N t a = d ∧ sd B N t a ≠ 0)) = p := ⟨_, rfl⟩
  rw [hp, f_X2_next]
  have hbody : ∀ (t m : Nat), t < N → f_X2_next_3 (nI u) (nI a) (nI d) (fun s10 => some ((-1), s10)) (m + 1) (nI t) σ = if p t then some (nI t, σ) else f_X2_next_3 (nI u) (nI a) (nI d) (fun s10 => some ((-1), s10)) m (nI (t + 1)) σ := by
    intro t m ht
    have c0 : ¬ N ≤ t := by omega
    have hs : sd B N t a ≤ N := sd_le
    rw [← hp]
    simp (disch := omega) only [lit_nI, nI_leS, nI_ltS, nI_eqS, nI_clS, nI_add, mulI, tI_leS, tI_ltS, tI_eqS, tI_m1, nI_m1, tI_eqn, tI_eqn2, tI_ltn, tI_nle, tI_len, tI_nlt, gi_nI, gi_lit, gz_nI, bnd_some, jn_def, vb_def, if_true, if_false, b2i_0, b2i_1, b2i_t, b2i_f, gb_b2i, gb_n0, gb_n1, bitN, bit0N, sh1N, orI, andI, e7_within, ite_self, n10, n01, Bool.true_eq_false, Bool.false_eq_true, f_X2_next_3, h0, c0, e3_isAbove hN hB hu ht, e3_steps h0 hN hB ht ha, stI_eq]
    rcases Bool.eq_false_or_eq_true ((B u).testBit t) with b1 | b1 <;> rcases Classical.propComplete (sd B N t a = d ∧ sd B N t a ≠ 0) with q1 | q1 <;> simp only [b1, q1, if_true, if_false, decide_true, decide_false, Bool.and_true, Bool.and_false, Bool.false_and, Bool.true_and, Bool.false_eq_true, Bool.true_eq_false]
  refine lpE (fun m (x : Int32) => f_X2_next_3 _ _ _ _ m x σ) (fun i => nI i) N _ (fst p N) (fst_le p N) (by omega) (fun m i hi => ?_) (fun m => ?_)
  · have hle := fst_le p N
    rw [hbody i m (by omega), fst_no p N i hi]
    rfl
  · rcases Nat.lt_or_ge (fst p N) N with h1 | h1
    · rw [hbody _ m h1, fst_yes p N h1, if_pos h1]
      rfl
    · rw [if_neg (by omega)]
      have c0 : N ≤ fst p N := h1
      have hle := fst_le p N
      simp (disch := omega) only [lit_nI, nI_leS, nI_ltS, nI_eqS, nI_clS, nI_add, mulI, tI_leS, tI_ltS, tI_eqS, tI_m1, nI_m1, tI_eqn, tI_eqn2, tI_ltn, tI_nle, tI_len, tI_nlt, gi_nI, gi_lit, gz_nI, bnd_some, jn_def, vb_def, if_true, if_false, b2i_0, b2i_1, b2i_t, b2i_f, gb_b2i, gb_n0, gb_n1, bitN, bit0N, sh1N, orI, andI, e7_within, ite_self, n10, n01, Bool.true_eq_false, Bool.false_eq_true, f_X2_next_3, h0, c0]
end
