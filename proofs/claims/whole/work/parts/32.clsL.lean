/-! ===== the class builds its segments ===== -/
def sC (o : Nat) (c k : Nat) : Bool := decide (o ≤ c) && decide (c ≤ o + 8)
theorem CP.fr {σ σ' : xSt} {n o : Nat} {P : Nat → Nat} (ho : 4 < o) (h : CP σ n P) (hf : Fr (sC o) σ σ') : CP σ' n P :=
  ⟨(hf.1 3 1 (by simp [sC]; omega)).trans h.1, h.2.1, fun k hk => ⟨(hf.1 4 k (by simp [sC]; omega)).trans (h.2.2 k hk).1, (h.2.2 k hk).2⟩⟩
/-- the columns to which a segment is attached -/
def atc (P : Nat → Nat) (w a b c : Nat) : Bool := (decide (a ≤ c) && decide (c ≤ b)) && hp P w c
def HC (σ : xSt) (o n : Nat) (P : Nat → Nat) (L : List (Nat × Nat × Nat)) : Prop := σ.1 o 8 = nI L.length ∧ ∀ s, s < L.length → (σ.1 (o + 1) s = nI (gN L s) ∧ σ.1 (o + 2) s = nI (gF L s) ∧ σ.1 (o + 3) s = nI (gL L s)) ∧ (σ.1 (o + 4) s = nI 0 ∧ σ.1 (o + 5) s = nI 0) ∧ ∃ a, σ.1 (o + 8) s = nI a ∧ a < 256 ∧ ∀ c, c < n → a.testBit c = atc P (gN L s) (gF L s) (gL L s) c
theorem e3_add {σ : xSt} {o n : Nat} {P : Nat → Nat} {L : List (Nat × Nat × Nat)} (h : HC σ o n P L) (hl : L.length < 14) (w a b : Nat) {m : Nat} (hm : m < 256) (hA : ∀ c, c < n → m.testBit c = atc P w a b c) : ∃ σ', f_X3_add o (nI w) (nI a) (nI b) (nI m) σ = some ((), σ') ∧ HC σ' o n P (L ++ [(w, a, b)]) ∧ Fr (sC o) σ σ' := by
  obtain ⟨h1, h2⟩ := h
  refine ⟨up2 (up2 (up2 (up2 (up2 (up2 (up2 σ (o + 1) L.length (nI w)) (o + 2) L.length (nI a)) (o + 3) L.length (nI b)) (o + 8) L.length (nI m)) (o + 4) L.length (nI 0)) (o + 5) L.length (nI 0)) o 8 (nI (L.length + 1)), ?_, ⟨?_, ?_⟩, ?_⟩
  · have c0 : ¬ 14 ≤ L.length := by omega
    simp (disch := omega) only [lit_nI, nI_leS, nI_ltS, nI_eqS, nI_clS, nI_add, mulI, tI_leS, tI_ltS, tI_eqS, tI_m1, nI_m1, tI_eqn, tI_eqn2, tI_ltn, tI_nle, tI_len, tI_nlt, gi_nI, gi_lit, gz_nI, bnd_some, jn_def, vb_def, if_true, if_false, b2i_0, b2i_1, b2i_t, b2i_f, gb_b2i, gb_n0, gb_n1, bitN, bit0N, sh1N, orI, andI, e7_within, ite_self, n10, n01, Bool.true_eq_false, Bool.false_eq_true, f_X3_add, h1, c0, up2_cell]
  · rw [up2_same, List.length_append]; rfl
  · intro s hs
    rw [List.length_append] at hs
    have hs' : s < L.length + 1 := hs
    by_cases e : s = L.length
    · obtain ⟨a1, a2, a3⟩ := g_last (L := L) (w := w) (a := a) (b := b)
      rw [e, a1, a2, a3]
      refine ⟨?_, ?_, m, ?_, hm, hA⟩
      · simp (disch := omega) only [up2_cell, up2_same, and_self]
      · simp (disch := omega) only [up2_cell, up2_same, and_self]
      · simp (disch := omega) only [up2_cell, up2_same]
    · have hlt : s < L.length := by omega
      obtain ⟨a1, a2, a3⟩ := h2 s hlt
      obtain ⟨b1, b2, b3⟩ := g_app (q := (w, a, b)) hlt
      rw [b1, b2, b3]
      have key : ∀ d, 1 ≤ d → (up2 (up2 (up2 (up2 (up2 (up2 (up2 σ (o + 1) L.length (nI w)) (o + 2) L.length (nI a)) (o + 3) L.length (nI b)) (o + 8) L.length (nI m)) (o + 4) L.length (nI 0)) (o + 5) L.length (nI 0)) o 8 (nI (L.length + 1))).1 (o + d) s = σ.1 (o + d) s := by
        intro d hd
        rw [up2_cell _ _ _ _ (by omega), up2_place _ _ _ _ e, up2_place _ _ _ _ e, up2_place _ _ _ _ e, up2_place _ _ _ _ e, up2_place _ _ _ _ e, up2_place _ _ _ _ e]
      rw [key 1 (by omega), key 2 (by omega), key 3 (by omega), key 4 (by omega), key 5 (by omega), key 8 (by omega)]
      exact ⟨a1, a2, a3⟩
  · have u : ∀ (τ : xSt) (d k : Nat) (v : Int32), d ≤ 8 → Fr (sC o) τ (up2 τ (o + d) k v) := fun τ d k v hd => Fr.up (by simp [sC]; omega)
    have u0 : ∀ (τ : xSt) (k : Nat) (v : Int32), Fr (sC o) τ (up2 τ o k v) := fun τ k v => Fr.up (by simp [sC])
    exact (u _ 1 _ _ (by omega)).tr ((u _ 2 _ _ (by omega)).tr ((u _ 3 _ _ (by omega)).tr ((u _ 8 _ _ (by omega)).tr ((u _ 4 _ _ (by omega)).tr ((u _ 5 _ _ (by omega)).tr (u0 _ _ _))))))
/-! where the first and the last pin is -/
theorem lpn_at (P : Nat → Nat) (w : Nat) : ∀ k, lpn P w k ≠ 0 → hp P w (lpn P w k - 1) = true ∧ ∀ c, lpn P w k ≤ c → c < k → hp P w c = false
  | 0, h => absurd rfl h
  | k + 1, h => by
    have e : lpn P w (k + 1) = if hp P w k then k + 1 else lpn P w k := rfl
    rw [e] at h ⊢
    by_cases q : hp P w k = true
    · rw [if_pos q]
      exact ⟨q, fun c h1 h2 => by omega⟩
    · rw [if_neg q] at h ⊢
      obtain ⟨i1, i2⟩ := lpn_at P w k h
      refine ⟨i1, fun c h1 h2 => ?_⟩
      rcases Nat.lt_or_ge c k with h3 | h3
      · exact i2 c h1 h3
      · have : c = k := by omega
        subst this
        simpa using q
theorem lpn_0 (P : Nat → Nat) (w : Nat) : ∀ k, lpn P w k = 0 → ∀ c, c < k → hp P w c = false
  | 0, _, c, hc => absurd hc (Nat.not_lt_zero c)
  | k + 1, h, c, hc => by
    have e : lpn P w (k + 1) = if hp P w k then k + 1 else lpn P w k := rfl
    rw [e] at h
    by_cases q : hp P w k = true
    · rw [if_pos q] at h; omega
    · rw [if_neg q] at h
      rcases Nat.lt_or_ge c k with h3 | h3
      · exact lpn_0 P w k h c h3
      · have : c = k := by omega
        subst this
        simpa using q
theorem fpn_at (P : Nat → Nat) (w : Nat) : ∀ k, fpn P w k ≠ 0 → hp P w (fpn P w k - 1) = true ∧ (∀ c, c + 1 < fpn P w k → hp P w c = false) ∧ fpn P w k ≤ k
  | 0, h => absurd rfl h
  | k + 1, h => by
    have e : fpn P w (k + 1) = if fpn P w k = 0 then (if hp P w k then k + 1 else 0) else fpn P w k := rfl
    have hl := fpn_le P w k
    rw [e] at h ⊢
    by_cases q1 : fpn P w k = 0
    · rw [if_pos q1] at h ⊢
      by_cases q : hp P w k = true
      · rw [if_pos q]
        exact ⟨q, fun c hc => lpn_0 P w k (hl.2.mp q1) c (by omega), Nat.le_refl _⟩
      · rw [if_neg q] at h; exact absurd rfl h
    · rw [if_neg q1]
      obtain ⟨i1, i2, i3⟩ := fpn_at P w k q1
      exact ⟨i1, i2, by omega⟩
theorem cnt_one (P : Nat → Nat) (w : Nat) : ∀ k, fpn P w k = lpn P w k → cnt (hp P w) k ≤ 1
  | 0, _ => Nat.zero_le _
  | k + 1, h => by
    have e1 : fpn P w (k + 1) = if fpn P w k = 0 then (if hp P w k then k + 1 else 0) else fpn P w k := rfl
    have e2 : lpn P w (k + 1) = if hp P w k then k + 1 else lpn P w k := rfl
    have hl := fpn_le P w k
    have hk := lpn_le P w k
    have hc := cnt_lpn P w k
    rw [e1, e2] at h
    show cnt (hp P w) k + (if hp P w k then 1 else 0) ≤ 1
    by_cases q : hp P w k = true
    · by_cases q1 : fpn P w k = 0
      · have := hc.mp (hl.2.mp q1)
        rw [if_pos q]; omega
      · rw [if_neg q1, if_pos q] at h
        omega
    · rw [if_neg q]
      by_cases q1 : fpn P w k = 0
      · have := hc.mp (hl.2.mp q1); omega
      · rw [if_neg q1, if_neg q] at h
        have := cnt_one P w k h; omega
theorem pc_cmk {p : Nat → Bool} {n : Nat} (hn : n ≤ 16) : pc (cmk p n) 16 = cnt p n := by
  have h1 : pc (cmk p n) 16 = cnt (fun i => decide (i < n) && p i) 16 := cnt_congr (p := fun i => (cmk p n).testBit i) (fun i _ => cmk_bit i)
  rw [h1]
  have h2 : ∀ d, n ≤ d → cnt (fun i => decide (i < n) && p i) d = cnt p n := by
    intro d hd
    obtain ⟨e, rfl⟩ := Nat.exists_eq_add_of_le hd
    clear hd
    induction e with
    | zero => exact cnt_congr (fun i hi => by simp [show i < n from hi])
    | succ e ih =>
      show cnt _ (n + e) + (if (decide (n + e < n) && p (n + e)) then 1 else 0) = _
      rw [ih]
      simp
      intro h; omega
  exact h2 16 hn
theorem low_cmk {P : Nat → Nat} {w n : Nat} (hn : n ≤ 8) (h : fpn P w n ≠ 0) : lowB (cmk (hp P w) n) 31 = nI (fpn P w n - 1) := by
  obtain ⟨h1, h2, h3⟩ := fpn_at P w n h
  have e : fst (fun k => (cmk (hp P w) n).testBit k) 31 = fpn P w n - 1 := by
    refine fst_eq (by omega) (fun k hk => ?_) (fun _ => ?_)
    · rw [cmk_bit, h2 k (by omega), Bool.and_false]
    · rw [cmk_bit, h1]; simp; omega
  rw [lowB, e, if_pos (by omega)]
theorem e6_highest {P : Nat → Nat} {w n : Nat} (hn : n ≤ 8) (h : lpn P w n ≠ 0) (σ : xSt) : f_X6_highest (nI (cmk (hp P w) n)) σ = some (nI (lpn P w n - 1), σ) := by
  obtain ⟨h1, h2⟩ := lpn_at P w n h
  have hl := lpn_le P w n
  have hlt : cmk (hp P w) n < 16384 := cmk14 (by omega)
  have := FU_big
  rw [f_X6_highest]
  refine lpD (fun m (a : Int32) => f_X6_highest_3 _ _ m a σ) (fun i => nI (30 - i)) (30 - (lpn P w n - 1)) _ (fun m i hi => ?_) (fun m => ?_) (30 - (lpn P w n - 1)) 0 FU (by omega) (by omega)
  · have e1 : nI (30 - i) + -nI 1 = nI (30 - (i + 1)) := by
      rw [show 30 - i = (30 - (i + 1)) + 1 by omega]
      exact pk_m1 _
    have hb : (cmk (hp P w) n).testBit (30 - i) = false := by
      rw [cmk_bit]
      by_cases q : 30 - i < n
      · rw [h2 (30 - i) (by omega) q, Bool.and_false]
      · simp [q]
    simp (disch := omega) only [lit_nI, nI_leS, nI_ltS, nI_eqS, nI_clS, nI_add, mulI, tI_leS, tI_ltS, tI_eqS, tI_m1, nI_m1, tI_eqn, tI_eqn2, tI_ltn, tI_nle, tI_len, tI_nlt, gi_nI, gi_lit, gz_nI, bnd_some, jn_def, vb_def, if_true, if_false, b2i_0, b2i_1, b2i_t, b2i_f, gb_b2i, gb_n0, gb_n1, bitN, bit0N, sh1N, orI, andI, e7_within, ite_self, n10, n01, Bool.true_eq_false, Bool.false_eq_true, f_X6_highest_3, Nat.not_lt_zero, hb, e1]
  · have e1 : 30 - (30 - (lpn P w n - 1)) = lpn P w n - 1 := by omega
    have hb : (cmk (hp P w) n).testBit (lpn P w n - 1) = true := by
      rw [cmk_bit, h1]; simp; omega
    simp (disch := omega) only [lit_nI, nI_leS, nI_ltS, nI_eqS, nI_clS, nI_add, mulI, tI_leS, tI_ltS, tI_eqS, tI_m1, nI_m1, tI_eqn, tI_eqn2, tI_ltn, tI_nle, tI_len, tI_nlt, gi_nI, gi_lit, gz_nI, bnd_some, jn_def, vb_def, if_true, if_false, b2i_0, b2i_1, b2i_t, b2i_f, gb_b2i, gb_n0, gb_n1, bitN, bit0N, sh1N, orI, andI, e7_within, ite_self, n10, n01, Bool.true_eq_false, Bool.false_eq_true, f_X6_highest_3, Nat.not_lt_zero, e1, hb]
/-! a net's segments -/
section
variable {σ : xSt} {o n : Nat} {P : Nat → Nat} {L : List (Nat × Nat × Nat)}
theorem atc_whole {w n : Nat} (hn : n ≤ 8) (h : fpn P w n < lpn P w n) : ∀ c, c < n → (cmk (hp P w) n).testBit c = atc P w (fpn P w n - 1) (lpn P w n - 1) c := by
  intro c hc
  have hf : fpn P w n ≠ 0 := fun e => by have := (fpn_le P w n).2.mp e; omega
  obtain ⟨a1, a2, a3⟩ := fpn_at P w n hf
  obtain ⟨b1, b2⟩ := lpn_at P w n (by omega)
  rw [cmk_bit, atc]
  by_cases q : hp P w c = true
  · have h1 : fpn P w n - 1 ≤ c := by
      rcases Nat.lt_or_ge (c + 1) (fpn P w n) with h | h
      · rw [a2 c h] at q; exact absurd q (by decide)
      · omega
    have h2 : c ≤ lpn P w n - 1 := by
      rcases Nat.lt_or_ge c (lpn P w n) with h | h
      · omega
      · rw [b2 c h hc] at q; exact absurd q (by decide)
    simp [hc, h1, h2]
  · have q' : hp P w c = false := by simpa using q
    rw [q', Bool.and_false, Bool.and_false]
theorem atc_piece {w i : Nat} (h : lpn P w i ≠ 0) (hi : hp P w i = true) : ∀ c, (2 ^ (lpn P w i - 1) ||| 2 ^ i).testBit c = atc P w (lpn P w i - 1) i c := by
  intro c
  obtain ⟨b1, b2⟩ := lpn_at P w i h
  have hl := lpn_le P w i
  rw [tb_or, atc]
  have e : (2 ^ (lpn P w i - 1)).testBit c = decide (c = lpn P w i - 1) := by
    have := tb_or 0 (lpn P w i - 1) c
    simpa using this
  rw [e]
  by_cases q1 : c = lpn P w i - 1
  · have q2 : c ≤ i := by omega
    simp [q1, b1]
    omega
  · by_cases q2 : c = i
    · subst q2
      simp [hi]
      omega
    · by_cases q3 : lpn P w i - 1 ≤ c ∧ c ≤ i
      · rw [b2 c (by omega) (by omega)]
        simp [q1, q2]
      · rw [Bool.eq_iff_iff]
        simp only [q1, q2, decide_false, Bool.or_self, Bool.false_eq_true, Bool.and_eq_true, decide_eq_true_eq, false_iff]
        exact fun hh => q3 hh.1
def mn (a b : Nat) : Nat := if a < b then a else b
theorem e3_addPieces (hn : n ≤ 8) (h : HC σ o n P L) {w : Nat} (hw : w < 6) (hl : L.length + (pcs P w n).length ≤ 14) : ∃ σ', f_X3_addPieces o (nI w) (nI (cmk (hp P w) n)) σ = some ((), σ') ∧ HC σ' o n P (L ++ pcs P w n) ∧ Fr (sC o) σ σ' := by
  have hm : cmk (hp P w) n < 16384 := cmk14 (by omega)
  obtain ⟨⟨a1, a2, τ⟩, ⟨i1, i2, i3, i4⟩, i5⟩ := lpK (fun k m (a : Int32 × Int32 × xSt) => f_X3_addPieces_5 o (nI w) (nI (cmk (hp P w) n)) k m a.1 a.2.1 a.2.2) (fun i a => a.1 = tI (lpn P w (mn i n)) ∧ a.2.1 = nI i ∧ HC a.2.2 o n P (L ++ pcs P w (mn i n)) ∧ Fr (sC o) σ a.2.2) 8 (fun k a => k a.2.2) (by omega) (fun m i a hi hI => by
    obtain ⟨a1, a2, τ⟩ := a
    obtain ⟨i1, i2, i3, i4⟩ := hI
    dsimp only at i1 i2 i3 i4 ⊢
    subst i1 i2
    have c0 : ¬ 8 ≤ i := by omega
    by_cases hin : i < n
    · have m1 : mn i n = i := if_pos hin
      have m2 : mn (i + 1) n = i + 1 := by
        rw [mn]; split
        · rfl
        · omega
      rw [m1] at i3 ⊢
      rw [m2]
      have f2 := lpn_le P w i
      have e2 : lpn P w (i + 1) = if hp P w i then i + 1 else lpn P w i := rfl
      have e3 : pcs P w (i + 1) = if hp P w i = true ∧ lpn P w i ≠ 0 then pcs P w i ++ [(w, lpn P w i - 1, i)] else pcs P w i := rfl
      have hb : (cmk (hp P w) n).testBit i = hp P w i := by rw [cmk_bit]; simp [hin]
      rcases Bool.eq_false_or_eq_true (hp P w i) with b1 | b1
      · by_cases q1 : lpn P w i = 0
        · refine ⟨(tI (i + 1), nI (i + 1), τ), ⟨?_, rfl, ?_, i4⟩, fun k => ?_⟩
          · rw [e2, if_pos b1]
          · rw [e3, if_neg (fun h => h.2 q1)]; exact i3
          · simp (disch := omega) only [lit_nI, nI_leS, nI_ltS, nI_eqS, nI_clS, nI_add, mulI, tI_leS, tI_ltS, tI_eqS, tI_m1, nI_m1, tI_eqn, tI_eqn2, tI_ltn, tI_nle, tI_len, tI_nlt, gi_nI, gi_lit, gz_nI, bnd_some, jn_def, vb_def, if_true, if_false, b2i_0, b2i_1, b2i_t, b2i_f, gb_b2i, gb_n0, gb_n1, bitN, bit0N, sh1N, orI, andI, e7_within, ite_self, n10, n01, Bool.true_eq_false, Bool.false_eq_true, f_X3_addPieces_5, c0, hb, b1, q1, tI_succ]
        · obtain ⟨b, hb2⟩ : ∃ b, lpn P w i = b + 1 := ⟨lpn P w i - 1, by omega⟩
          have hlen : (L ++ pcs P w i).length < 14 := by
            have h1 := pcs_pre (P := P) (w := w) (show i + 1 ≤ n by omega)
            have h2 : (pcs P w (i + 1)).length = (pcs P w i).length + 1 := by rw [e3, if_pos ⟨b1, q1⟩]; simp
            rw [List.length_append]; omega
          have hat := atc_piece q1 b1
          rw [hb2, Nat.add_sub_cancel] at hat
          obtain ⟨τ', s1, s2, s3⟩ := e3_add i3 hlen w b i (m := 2 ^ b ||| 2 ^ i) (or_lt (n := 8) (Nat.pow_lt_pow_right (by decide) (by omega)) (Nat.pow_lt_pow_right (by decide) (by omega))) (fun c _ => hat c)
          refine ⟨(tI (i + 1), nI (i + 1), τ'), ⟨?_, rfl, ?_, i4.tr s3⟩, fun k => ?_⟩
          · rw [e2, if_pos b1]
          · rw [e3, if_pos ⟨b1, q1⟩, hb2, ← List.append_assoc]; exact s2
          · simp (disch := omega) only [lit_nI, nI_leS, nI_ltS, nI_eqS, nI_clS, nI_add, mulI, tI_leS, tI_ltS, tI_eqS, tI_m1, nI_m1, tI_eqn, tI_eqn2, tI_ltn, tI_nle, tI_len, tI_nlt, gi_nI, gi_lit, gz_nI, bnd_some, jn_def, vb_def, if_true, if_false, b2i_0, b2i_1, b2i_t, b2i_f, gb_b2i, gb_n0, gb_n1, bitN, bit0N, sh1N, orI, andI, e7_within, ite_self, n10, n01, Bool.true_eq_false, Bool.false_eq_true, f_X3_addPieces_5, c0, hb, b1, hb2, tI_succ, s1]
      · refine ⟨(tI (lpn P w i), nI (i + 1), τ), ⟨?_, rfl, ?_, i4⟩, fun k => ?_⟩
        · rw [e2, b1]; rfl
        · rw [e3, if_neg (fun h => by rw [b1] at h; exact absurd h.1 (by decide))]; exact i3
        · simp (disch := omega) only [lit_nI, nI_leS, nI_ltS, nI_eqS, nI_clS, nI_add, mulI, tI_leS, tI_ltS, tI_eqS, tI_m1, nI_m1, tI_eqn, tI_eqn2, tI_ltn, tI_nle, tI_len, tI_nlt, gi_nI, gi_lit, gz_nI, bnd_some, jn_def, vb_def, if_true, if_false, b2i_0, b2i_1, b2i_t, b2i_f, gb_b2i, gb_n0, gb_n1, bitN, bit0N, sh1N, orI, andI, e7_within, ite_self, n10, n01, Bool.true_eq_false, Bool.false_eq_true, f_X3_addPieces_5, c0, hb, b1]
    · have m1 : mn i n = n := if_neg hin
      have m2 : mn (i + 1) n = n := if_neg (by omega)
      rw [m1] at i3 ⊢
      rw [m2]
      have hb : (cmk (hp P w) n).testBit i = false := by rw [cmk_bit]; simp [hin]
      refine ⟨(tI (lpn P w n), nI (i + 1), τ), ⟨rfl, rfl, i3, i4⟩, fun k => ?_⟩
      simp (disch := omega) only [lit_nI, nI_leS, nI_ltS, nI_eqS, nI_clS, nI_add, mulI, tI_leS, tI_ltS, tI_eqS, tI_m1, nI_m1, tI_eqn, tI_eqn2, tI_ltn, tI_nle, tI_len, tI_nlt, gi_nI, gi_lit, gz_nI, bnd_some, jn_def, vb_def, if_true, if_false, b2i_0, b2i_1, b2i_t, b2i_f, gb_b2i, gb_n0, gb_n1, bitN, bit0N, sh1N, orI, andI, e7_within, ite_self, n10, n01, Bool.true_eq_false, Bool.false_eq_true, f_X3_addPieces_5, c0, hb]) (fun m a hI => by
    obtain ⟨a1, a2, τ⟩ := a
    obtain ⟨i1, i2, i3, i4⟩ := hI
    dsimp only at i1 i2 i3 i4 ⊢
    subst i1 i2
    intro k
    simp (disch := omega) only [lit_nI, nI_leS, nI_ltS, nI_eqS, nI_clS, nI_add, mulI, tI_leS, tI_ltS, tI_eqS, tI_m1, nI_m1, tI_eqn, tI_eqn2, tI_ltn, tI_nle, tI_len, tI_nlt, gi_nI, gi_lit, gz_nI, bnd_some, jn_def, vb_def, if_true, if_false, b2i_0, b2i_1, b2i_t, b2i_f, gb_b2i, gb_n0, gb_n1, bitN, bit0N, sh1N, orI, andI, e7_within, ite_self, n10, n01, Bool.true_eq_false, Bool.false_eq_true, f_X3_addPieces_5, Nat.le_refl]) (-1, 0, σ) ⟨by
      have : mn 0 n = 0 := by rw [mn]; split; rfl; omega
      rw [this]; rfl, rfl, by
      have : mn 0 n = 0 := by rw [mn]; split; rfl; omega
      rw [this]; simpa [pcs, fo] using h, Fr.rf⟩
  dsimp only at i1 i2 i3 i4 i5
  have : mn 8 n = n := by rw [mn]; split <;> omega
  rw [this] at i3
  exact ⟨τ, by rw [f_X3_addPieces, i5], i3, i4⟩
end
