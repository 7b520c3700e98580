/-! ===== the text of a channel ===== -/
def pnB (x : Nat) : Bool := decide (x = 46) || (decide (97 ≤ x) && decide (x ≤ 102))
theorem pnB_47 {x : Nat} (h : pnB x = true) : x ≠ 47 := fun e => by rw [e] at h; exact absurd h (by decide)
def MTx (τ : xSt) (l : Nat) (X : Nat → Nat) : Prop := τ.1 0 14 = nI l ∧ l ≤ 20 ∧ ∀ i, i < l → τ.1 9 i = nI (X i) ∧ X i ≤ 126
def CTx (σ : xSt) (l : Nat) (X : Nat → Nat) : Prop := σ.1 1 1 = nI l ∧ l ≤ 20 ∧ ∀ i, i < l → σ.1 2 i = nI (X i) ∧ X i ≤ 126
theorem dw {x a b : Nat} (hx : x < 2147483648) (ha : a < 2147483648) (hb : b < 2147483648) : (decide (nI a ≤ nI x) && decide (nI x ≤ nI b)) = (decide (a ≤ x) && decide (x ≤ b)) := by
  rw [decide_eq_decide.mpr (nI_leI ha hx), decide_eq_decide.mpr (nI_leI hx hb)]
theorem nlit {x m : Nat} (hx : x < 2147483648) (hm : m < 2147483648) (h : x ≠ m) : ¬ nI x = nI m := fun e => h ((nI_eq hx hm).mp e)
section
variable {σ σ' τ τ' : xSt} {n C l b : Nat} {P T X : Nat → Nat}
theorem RT.m (h : RT σ τ l X) : MTx τ l X := ⟨h.2.2.1, h.1, fun i hi => ⟨(h.2.2.2 i hi).2.1, (h.2.2.2 i hi).2.2.2⟩⟩
theorem RT.c (h : RT σ τ l X) : CTx σ l X := ⟨h.2.1, h.1, fun i hi => ⟨(h.2.2.2 i hi).1, (h.2.2.2 i hi).2.2.2⟩⟩
theorem RX.e (h : RX σ τ l X) : RE σ τ := by
  obtain ⟨n, C, P, T, b, h⟩ := h
  exact ⟨n, C, P, T, l, X, b, h⟩
theorem RR.e (h : RR σ τ n C P T l X b) : RE σ τ := ⟨n, C, P, T, l, X, b, h⟩
theorem RR.txt {l' : Nat} {X' : Nat → Nat} (h : RR σ τ n C P T l X b) (h1 : ∀ c k, ¬ (c = 2 ∨ (c = 1 ∧ k = 1)) → σ'.1 c k = σ.1 c k) (h2 : ∀ c k, ¬ (c = 9 ∨ (c = 0 ∧ (k = 14 ∨ k = 16 ∨ k = 17))) → τ'.1 c k = τ.1 c k) (h3 : RT σ' τ' l' X') : RR σ' τ' n C P T l' X' b := by
  refine ⟨h.1.ext (fun c k hk => h1 c k ?_), h.2.1.ext (fun c k hk => h2 c k ?_), h3, h.2.2.2.ext (fun k hk => h1 0 k (by omega)) (fun k hk => h2 0 k (by omega))⟩
  · simp only [rC, Bool.or_eq_true, Bool.and_eq_true, decide_eq_true_eq] at hk
    omega
  · simp only [rM, Bool.or_eq_true, Bool.and_eq_true, decide_eq_true_eq] at hk
    omega
theorem o_blank (h : RR σ τ n C P T l X b) : ∃ r σ' τ', f_X6_blank σ = some (r, σ') ∧ f_X7_blank τ = some (r, τ') ∧ RE σ' τ' := by
  refine ⟨nI l, up2 σ 1 1 0, up2 τ 0 14 0, ?_, ?_, (h.txt (X' := X) (l' := 0) (fun c k hk => up2_off σ (by omega)) (fun c k hk => up2_off τ (by omega)) ⟨by omega, up2_same _ _ _ _, up2_same _ _ _ _, fun i hi => absurd hi (Nat.not_lt_zero i)⟩).e⟩
  · rw [f_X6_blank, vb_def, vb_def, h.2.2.1.2.1]
  · rw [f_X7_blank, vb_def, vb_def, h.2.2.1.2.2.1]
theorem e4_append (h : σ.1 1 1 = nI l) (hl : l < 20) (a : Int32) : f_X4_append a σ = some ((), up2 (up2 σ 2 l a) 1 1 (nI (l + 1))) := by
  rw [f_X4_append]
  simp only [jn_def]
  rw [h, if_neg (show ¬ (20 : Int32) ≤ nI l from xn_le (a := 20) hl (by omega)), gi_nI hl (by omega), nI_clS (by omega), vb_def, vb_def, up2_cell _ _ _ _ (by decide), h, xn_s]
theorem o_letter (h : RR σ τ n C P T l X b) (a : Int32) : ∃ r σ' τ', f_X6_letter a σ = some (r, σ') ∧ f_X7_letter a τ = some (r, τ') ∧ RE σ' τ' := by
  obtain ⟨t1, t2, t3, t4⟩ := h.2.2.1
  rcases c_lt a 127 (by omega) with ⟨j, h1, h2⟩ | h1
  · subst h2
    have w := e7_within (nI j) 32 126 τ
    rw [show (decide ((32 : Int32) ≤ nI j) && decide (nI j ≤ 126)) = (decide (32 ≤ j) && decide (j ≤ 126)) from dw (a := 32) (b := 126) (by omega) (by omega) (by omega)] at w
    by_cases q : j < 32
    · refine ⟨-102, σ, τ, ?_, ?_, h.e⟩
      · rw [f_X6_letter]
        simp only [jn_def]
        rw [if_pos (show nI j < (32 : Int32) from xy_lt (b := 32) q (by omega))]
      · rw [f_X7_letter, w, decide_eq_false (by omega)]; rfl
    · rw [decide_eq_true (by omega), decide_eq_true (show j ≤ 126 by omega)] at w
      have d6 : f_X6_letter (nI j) σ = if nI l < 20 then bnd (f_X4_append (nI j) σ) (fun r6 s7 => some (s7.1 1 1, s7)) else some (-104, σ) := by
        rw [f_X6_letter]
        simp only [jn_def]
        rw [if_neg (show ¬ nI j < (32 : Int32) from xn_lt (b := 32) (by omega) (by omega)), if_pos (show nI j ≤ (126 : Int32) from xy_le (b := 126) (by omega) (by omega)), t2]
      by_cases q20 : l = 20
      · refine ⟨-104, σ, τ, ?_, ?_, h.e⟩
        · rw [d6, q20]; rfl
        · rw [f_X7_letter, w, bnd_some, t3, q20]; rfl
      · refine ⟨nI (l + 1), up2 (up2 σ 2 l (nI j)) 1 1 (nI (l + 1)), up2 (up2 τ 9 l (nI j)) 0 14 (nI (l + 1)), ?_, ?_, (h.txt (l' := l + 1) (X' := stT X l j) (fun c k hk => (up2_off _ (by omega)).trans (up2_off σ (by omega))) (fun c k hk => (up2_off _ (by omega)).trans (up2_off τ (by omega))) ⟨by omega, up2_same _ _ _ _, up2_same _ _ _ _, fun i hi => ?_⟩).e⟩
        · rw [d6, if_pos (show nI l < (20 : Int32) from xy_lt (b := 20) (by omega) (by omega)), e4_append t2 (by omega), bnd_some, up2_same]
        · rw [f_X7_letter, w, bnd_some, if_neg (show ¬ b2i (true && true) = 0 by decide), t3, if_neg (show ¬ nI l = (20 : Int32) from fun e => q20 ((nI_eq (by omega) (by omega)).mp e)), gi_nI (by omega) (by omega), nI_clS (by omega), vb_def, vb_def, show (up2 τ 9 l (nI j)).1 0 14 = nI l from (up2_cell τ l 14 (nI j) (by decide)).trans t3, xn_s, up2_same]
        · rw [show (up2 (up2 σ 2 l (nI j)) 1 1 (nI (l + 1))).1 2 i = (up2 σ 2 l (nI j)).1 2 i from up2_cell _ _ _ _ (by decide), show (up2 (up2 τ 9 l (nI j)) 0 14 (nI (l + 1))).1 9 i = (up2 τ 9 l (nI j)).1 9 i from up2_cell _ _ _ _ (by decide)]
          by_cases qi : i = l
          · subst qi
            rw [up2_same, up2_same, stT_at]; exact ⟨rfl, rfl, by omega, by omega⟩
          · rw [up2_place _ _ _ _ qi, up2_place _ _ _ _ qi, stT_ne qi]; exact t4 i (by omega)
  · refine ⟨-102, σ, τ, ?_, ?_, h.e⟩
    · rw [f_X6_letter]
      simp only [jn_def]
      by_cases q : a < (32 : Int32)
      · rw [if_pos q]
      · rw [if_neg q]
        rcases h1 with h1 | h1
        · exact absurd (neg_lt h1 32 (by omega)) q
        · have : ¬ a ≤ (126 : Int32) := fun e => absurd (Int32.le_trans h1 e) (by decide)
          rw [if_neg this]
    · have : (decide ((32 : Int32) ≤ a) && decide (a ≤ 126)) = false := by
        rcases h1 with h1 | h1
        · have : ¬ (32 : Int32) ≤ a := neg_nle h1 32 (by omega)
          rw [decide_eq_false this]; rfl
        · have : ¬ a ≤ (126 : Int32) := fun e => absurd (Int32.le_trans h1 e) (by decide)
          rw [decide_eq_false this, Bool.and_false]
      rw [f_X7_letter, e7_within, this]; rfl
/-! the reference reads a channel -/
theorem e7_isPin {x : Nat} (hx : x < 1000) : f_X7_isPin (nI x) τ = some (b2i (pnB x), τ) := by
  have c46 : (nI x = (46 : Int32)) ↔ x = 46 := nI_eq (b := 46) (by omega) (by omega)
  rw [f_X7_isPin]
  simp only [jn_def]
  by_cases q : x = 46
  · rw [if_pos (c46.mpr q)]; subst q; rfl
  · rw [if_neg (fun e => q (c46.mp e)), e7_within, bnd_some, show (decide ((97 : Int32) ≤ nI x) && decide (nI x ≤ 102)) = (decide (97 ≤ x) && decide (x ≤ 102)) from dw (a := 97) (b := 102) (by omega) (by omega) (by omega), pnB, decide_eq_false q, Bool.false_or]
    cases decide (97 ≤ x) && decide (x ≤ 102) <;> rfl
def pf (X : Nat → Nat) (l a m : Nat) : Nat := fst (fun k => !(decide (a + k < l) && pnB (X (a + k)))) m
theorem pf_le {a m : Nat} : pf X l a m ≤ m := fst_le _ m
theorem pf_in {a m k : Nat} (h : k < pf X l a m) : a + k < l ∧ pnB (X (a + k)) = true := by
  have := fst_no _ _ _ h
  simp only [Bool.not_eq_false', Bool.and_eq_true, decide_eq_true_eq] at this
  exact this
theorem pf_end {a m : Nat} (h : pf X l a m < m) : ¬ (a + pf X l a m < l ∧ pnB (X (a + pf X l a m)) = true) := by
  have := fst_yes _ _ h
  intro ⟨e1, e2⟩
  have e1' : a + pf X l a m < l := e1
  have e2' : pnB (X (a + pf X l a m)) = true := e2
  rw [pf] at e1' e2'
  rw [decide_eq_true e1', e2'] at this
  exact absurd this (by decide)
theorem pf_l {a m : Nat} (h : a ≤ l) : a + pf X l a m ≤ l := by
  rcases Nat.eq_zero_or_pos (pf X l a m) with q | q
  · omega
  · have := (pf_in (X := X) (l := l) (a := a) (m := m) (k := pf X l a m - 1) (by omega)).1
    omega
theorem e7_pinsFrom (h : MTx τ l X) {a m : Nat} (ha : a ≤ 20) (hm : m ≤ 20) : f_X7_pinsFrom (nI a) (nI m) τ = some (nI (pf X l a m), τ) := by
  obtain ⟨t1, t2, t3⟩ := h
  rw [f_X7_pinsFrom]
  refine lpE (fun n (v : Int32) => f_X7_pinsFrom_2 (nI a) (nI m) _ n v τ) (fun i => nI i) m _ (pf X l a m) pf_le (by omega) (fun n i hi => ?_) (fun n => ?_)
  · obtain ⟨q1, q2⟩ := pf_in hi
    have q3 := pf_le (X := X) (l := l) (a := a) (m := m)
    have c1 : ¬ m ≤ i := by omega
    have c2 : ¬ l ≤ a + i := by omega
    obtain ⟨x1, x2⟩ := t3 _ q1
    simp (disch := omega) only [lit_nI, nI_leS, nI_ltS, nI_eqS, nI_clS, nI_add, mulI, tI_leS, tI_ltS, tI_eqS, tI_m1, nI_m1, tI_eqn, tI_eqn2, tI_ltn, tI_nle, tI_len, tI_nlt, gi_nI, gi_lit, gz_nI, bnd_some, jn_def, vb_def, if_true, if_false, b2i_0, b2i_1, b2i_t, b2i_f, gb_b2i, gb_n0, gb_n1, bitN, bit0N, sh1N, orI, andI, e7_within, ite_self, n10, n01, Bool.true_eq_false, Bool.false_eq_true, f_X7_pinsFrom_2, c1, c2, t1, x1, e7_isPin, q2]
  · have q3 := pf_le (X := X) (l := l) (a := a) (m := m)
    have q4 := pf_end (X := X) (l := l) (a := a) (m := m)
    generalize pf X l a m = e at *
    by_cases c1 : m ≤ e
    · simp (disch := omega) only [lit_nI, nI_leS, nI_ltS, nI_eqS, nI_clS, nI_add, mulI, tI_leS, tI_ltS, tI_eqS, tI_m1, nI_m1, tI_eqn, tI_eqn2, tI_ltn, tI_nle, tI_len, tI_nlt, gi_nI, gi_lit, gz_nI, bnd_some, jn_def, vb_def, if_true, if_false, b2i_0, b2i_1, b2i_t, b2i_f, gb_b2i, gb_n0, gb_n1, bitN, bit0N, sh1N, orI, andI, e7_within, ite_self, n10, n01, Bool.true_eq_false, Bool.false_eq_true, f_X7_pinsFrom_2, c1]
    · by_cases c2 : l ≤ a + e
      · simp (disch := omega) only [lit_nI, nI_leS, nI_ltS, nI_eqS, nI_clS, nI_add, mulI, tI_leS, tI_ltS, tI_eqS, tI_m1, nI_m1, tI_eqn, tI_eqn2, tI_ltn, tI_nle, tI_len, tI_nlt, gi_nI, gi_lit, gz_nI, bnd_some, jn_def, vb_def, if_true, if_false, b2i_0, b2i_1, b2i_t, b2i_f, gb_b2i, gb_n0, gb_n1, bitN, bit0N, sh1N, orI, andI, e7_within, ite_self, n10, n01, Bool.true_eq_false, Bool.false_eq_true, f_X7_pinsFrom_2, c1, c2, t1]
      · obtain ⟨x1, x2⟩ := t3 (a + e) (by omega)
        have q5 : pnB (X (a + e)) = false := by
          cases q : pnB (X (a + e))
          · rfl
          · exact absurd ⟨by omega, q⟩ (q4 (by omega))
        simp (disch := omega) only [lit_nI, nI_leS, nI_ltS, nI_eqS, nI_clS, nI_add, mulI, tI_leS, tI_ltS, tI_eqS, tI_m1, nI_m1, tI_eqn, tI_eqn2, tI_ltn, tI_nle, tI_len, tI_nlt, gi_nI, gi_lit, gz_nI, bnd_some, jn_def, vb_def, if_true, if_false, b2i_0, b2i_1, b2i_t, b2i_f, gb_b2i, gb_n0, gb_n1, bitN, bit0N, sh1N, orI, andI, e7_within, ite_self, n10, n01, Bool.true_eq_false, Bool.false_eq_true, f_X7_pinsFrom_2, c1, c2, t1, x1, e7_isPin, q5]
def rdE (X : Nat → Nat) (l : Nat) : Nat := if 2 ≤ pf X l 0 8 ∧ pf X l 0 8 < l ∧ X (pf X l 0 8) = 47 then pf X l 0 8 + 1 + pf X l (pf X l 0 8 + 1) (pf X l 0 8) else pf X l 0 8
def rdW (X : Nat → Nat) (l : Nat) : Bool := decide (2 ≤ pf X l 0 8 ∧ pf X l 0 8 < l ∧ X (pf X l 0 8) = 47 ∧ pf X l (pf X l 0 8 + 1) (pf X l 0 8) = pf X l 0 8 ∧ pf X l 0 8 + 1 + pf X l 0 8 = l)
def sRd (c k : Nat) : Bool := decide (c = 0) && (decide (k = 16) || decide (k = 17))
theorem MTx.rd (h : MTx τ l X) (hf : Fr sRd τ τ') : MTx τ' l X := ⟨(hf.1 0 14 rfl).trans h.1, h.2.1, fun i hi => ⟨(hf.1 9 i rfl).trans (h.2.2 i hi).1, (h.2.2 i hi).2⟩⟩
theorem e7_readChannel (h : MTx τ l X) : ∃ τ', f_X7_readChannel τ = some (nI (rdE X l), τ') ∧ τ'.1 0 16 = nI (pf X l 0 8) ∧ τ'.1 0 17 = b2i (rdW X l) ∧ Fr sRd τ τ' := by
  have hc8 := pf_le (X := X) (l := l) (a := 0) (m := 8)
  have hcl := pf_l (X := X) (l := l) (a := 0) (m := 8) (Nat.zero_le l)
  have f1 : Fr sRd τ (up2 τ 0 17 0) := Fr.up rfl
  have f2 : Fr sRd (up2 τ 0 17 0) (up2 (up2 τ 0 17 0) 0 16 (nI (pf X l 0 8))) := Fr.up rfl
  have h1 := h.rd f1
  have h2 := h1.rd f2
  have e1 : f_X7_pinsFrom 0 8 (up2 τ 0 17 0) = some (nI (pf X l 0 8), up2 τ 0 17 0) := e7_pinsFrom h1 (a := 0) (m := 8) (by omega) (by omega)
  have e2 := e7_pinsFrom h2 (a := pf X l 0 8 + 1) (m := pf X l 0 8) (by omega) (by omega)
  have s16 : (up2 (up2 τ 0 17 0) 0 16 (nI (pf X l 0 8))).1 0 16 = nI (pf X l 0 8) := up2_same _ _ _ _
  have s17 : (up2 (up2 τ 0 17 0) 0 16 (nI (pf X l 0 8))).1 0 17 = nI 0 := (up2_place _ _ _ _ (by decide)).trans (up2_same _ _ _ _)
  have head : f_X7_readChannel τ = (fun s4 : xSt => if (s4.1 0 16) < 2 then some (s4.1 0 16, s4) else (if (s4.1 0 16) = (s4.1 0 14) then some (s4.1 0 16, s4) else (gi (s4.1 0 16) 20 (if (s4.1 9 (s4.1 0 16).toNatClampNeg) = 47 then (bnd (f_X7_pinsFrom ((s4.1 0 16) + 1) (s4.1 0 16) s4) (fun r21 s22 => if r21 = (s22.1 0 16) then (if ((s22.1 0 16) + 1) + r21 = (s22.1 0 14) then (some (((s22.1 0 16) + 1) + r21, up2 s22 0 17 1)) else (some (((s22.1 0 16) + 1) + r21, up2 s22 0 17 0))) else (some (((s22.1 0 16) + 1) + r21, up2 s22 0 17 0)))) else some (s4.1 0 16, s4))))) (up2 (up2 τ 0 17 0) 0 16 (nI (pf X l 0 8))) := by
    rw [f_X7_readChannel, gb_0, vb_def, e1, bnd_some, vb_def]
    simp only [jn_def, vb_def, gb_0, gb_1]
  generalize hσ : up2 (up2 τ 0 17 0) 0 16 (nI (pf X l 0 8)) = s4 at *
  have f3 : Fr sRd τ s4 := f1.tr f2
  simp only [s16, h2.1, e2, bnd_some, xn_s, nI_add] at head
  generalize hm : pf X l (pf X l 0 8 + 1) (pf X l 0 8) = m at *
  have hmc : m ≤ pf X l 0 8 := by rw [← hm]; exact pf_le
  generalize hc : pf X l 0 8 = c at *
  have hW : rdW X l = decide (2 ≤ c ∧ c < l ∧ X c = 47 ∧ m = c ∧ c + 1 + c = l) := by rw [rdW, hc, hm]
  have hE : rdE X l = if 2 ≤ c ∧ c < l ∧ X c = 47 then c + 1 + m else c := by rw [rdE, hc, hm]
  have hl20 := h.2.1
  by_cases q1 : c < 2
  · rw [if_pos (show nI c < (2 : Int32) from xy_lt (b := 2) q1 (by omega))] at head
    refine ⟨s4, ?_, s16, ?_, f3⟩
    · rw [head, hE, if_neg (by omega)]
    · rw [hW, decide_eq_false (by omega)]; exact s17
  · rw [if_neg (show ¬ nI c < (2 : Int32) from xn_lt (b := 2) (by omega) (by omega))] at head
    by_cases q2 : c = l
    · rw [if_pos (by rw [q2])] at head
      refine ⟨s4, ?_, s16, ?_, f3⟩
      · rw [head, hE, if_neg (by omega)]
      · rw [hW, decide_eq_false (by omega)]; exact s17
    · have hcl2 : c < l := by omega
      obtain ⟨x1, x2⟩ := h2.2.2 c hcl2
      rw [if_neg (fun e => q2 ((nI_eq (by omega) (by omega)).mp e)), gi_nI (by omega) (by omega), nI_clS (by omega), x1] at head
      by_cases q3 : X c = 47
      · rw [if_pos (show nI (X c) = (47 : Int32) by rw [q3]; rfl)] at head
        by_cases q4 : m = c
        · rw [if_pos (by rw [q4])] at head
          by_cases q5 : c + 1 + m = l
          · rw [if_pos (by rw [q5])] at head
            refine ⟨up2 s4 0 17 1, ?_, (up2_place _ _ _ _ (by decide)).trans s16, ?_, f3.tr (Fr.up rfl)⟩
            · rw [head, hE, if_pos ⟨by omega, hcl2, q3⟩]
            · rw [hW, decide_eq_true ⟨by omega, hcl2, q3, q4, by omega⟩]; exact up2_same _ _ _ _
          · rw [if_neg (fun e => q5 ((nI_eq (by omega) (by omega)).mp e))] at head
            refine ⟨up2 s4 0 17 0, ?_, (up2_place _ _ _ _ (by decide)).trans s16, ?_, f3.tr (Fr.up rfl)⟩
            · rw [head, hE, if_pos ⟨by omega, hcl2, q3⟩]
            · rw [hW, decide_eq_false (by omega)]; exact up2_same _ _ _ _
        · rw [if_neg (fun e => q4 ((nI_eq (by omega) (by omega)).mp e))] at head
          refine ⟨up2 s4 0 17 0, ?_, (up2_place _ _ _ _ (by decide)).trans s16, ?_, f3.tr (Fr.up rfl)⟩
          · rw [head, hE, if_pos ⟨by omega, hcl2, q3⟩]
          · rw [hW, decide_eq_false (by omega)]; exact up2_same _ _ _ _
      · rw [if_neg (show ¬ nI (X c) = (47 : Int32) from nlit (m := 47) (by omega) (by omega) q3)] at head
        refine ⟨s4, ?_, s16, ?_, f3⟩
        · rw [head, hE, if_neg (fun e => q3 e.2.2)]
        · rw [hW, decide_eq_false (fun e => q3 e.2.2.1)]; exact s17
/-! the class reads a channel -/
theorem e4_isNetSign {x : Nat} (hx : x < 1000) : f_X4_isNetSign (nI x) σ = some (b2i (decide (97 ≤ x) && decide (x ≤ 102)), σ) := by
  rw [f_X4_isNetSign]
  simp only [jn_def]
  by_cases q1 : x < 97
  · rw [if_pos (show nI x < (97 : Int32) from xy_lt (b := 97) q1 (by omega)), decide_eq_false (by omega)]; rfl
  · rw [if_neg (show ¬ nI x < (97 : Int32) from xn_lt (b := 97) (by omega) (by omega)), decide_eq_true (by omega)]
    by_cases q2 : 103 ≤ x
    · rw [if_pos (show (103 : Int32) ≤ nI x from xy_le (a := 103) q2 (by omega)), decide_eq_false (by omega)]; rfl
    · rw [if_neg (show ¬ (103 : Int32) ≤ nI x from xn_le (a := 103) (by omega) (by omega)), decide_eq_true (by omega)]; rfl
theorem e4_isPinSign {x : Nat} (hx : x < 1000) : f_X4_isPinSign (nI x) σ = some (b2i (pnB x), σ) := by
  have c46 : (nI x = (46 : Int32)) ↔ x = 46 := nI_eq (b := 46) (by omega) (by omega)
  rw [f_X4_isPinSign]
  simp only [jn_def]
  by_cases q : x = 46
  · rw [if_pos (c46.mpr q)]; subst q; rfl
  · rw [if_neg (fun e => q (c46.mp e)), e4_isNetSign hx, bnd_some, pnB, decide_eq_false q, Bool.false_or]
    cases decide (97 ≤ x) && decide (x ≤ 102) <;> rfl
def ftB (X : Nat → Nat) (i s : Nat) : Bool := if s = 0 then (if X i = 47 then decide (2 ≤ i) else decide (i < 8) && pnB (X i)) else decide (i ≤ 2 * (s - 1)) && pnB (X i)
theorem e4_fits (h : CTx σ l X) {i s : Nat} (hi : i < l) (hs : s ≤ 20) : f_X4_fitsChannel (nI i) (tI s) σ = some (b2i (ftB X i s), σ) := by
  obtain ⟨t1, t2, t3⟩ := h
  obtain ⟨x1, x2⟩ := t3 i hi
  have pn := e4_isPinSign (σ := σ) (show X i < 1000 by omega)
  rw [f_X4_fitsChannel, gi_nI (by omega) (by omega), nI_clS (by omega), vb_def, x1]
  simp only [jn_def]
  cases s with
  | zero =>
    rw [if_pos (show tI 0 = (-1 : Int32) from tI_0), ftB, if_pos rfl]
    by_cases q : X i = 47
    · rw [if_pos (show nI (X i) = (47 : Int32) by rw [q]; rfl), if_pos q]
      by_cases q2 : i < 2
      · rw [if_pos (show nI i < (2 : Int32) from xy_lt (b := 2) q2 (by omega)), decide_eq_false (by omega)]; rfl
      · rw [if_neg (show ¬ nI i < (2 : Int32) from xn_lt (b := 2) (by omega) (by omega)), decide_eq_true (by omega)]; rfl
    · rw [if_neg (show ¬ nI (X i) = (47 : Int32) from nlit (m := 47) (by omega) (by omega) q), if_neg q]
      by_cases q2 : 8 ≤ i
      · rw [if_pos (show (8 : Int32) ≤ nI i from xy_le (a := 8) q2 (by omega)), decide_eq_false (by omega)]; rfl
      · rw [if_neg (show ¬ (8 : Int32) ≤ nI i from xn_le (a := 8) (by omega) (by omega)), decide_eq_true (by omega), pn, bnd_some]
        cases pnB (X i) <;> rfl
  | succ s =>
    rw [if_neg (show ¬ tI (s + 1) = (-1 : Int32) by rw [tI_succ]; exact fun e => absurd ((nI_m1 (by omega)).mp e) id), ftB, if_neg (Nat.succ_ne_zero s), tI_succ, show (2 : Int32) * nI s = nI (2 * s) from mulI 2 s, Nat.add_sub_cancel]
    by_cases q2 : 2 * s < i
    · rw [if_pos (xy_lt q2 (by omega)), decide_eq_false (by omega)]; rfl
    · rw [if_neg (xn_lt (by omega) (by omega)), decide_eq_true (by omega), pn, bnd_some]
      cases pnB (X i) <;> rfl
def slB (X : Nat → Nat) : Nat → Nat := fo (fun i s => if X i = 47 then i + 1 else s) 0
theorem slB_le : ∀ i, slB X i ≤ i
  | 0 => Nat.le_refl _
  | i + 1 => by
    have := slB_le i
    show (if X i = 47 then i + 1 else slB X i) ≤ i + 1
    split <;> omega
theorem slB_0 : ∀ {i : Nat}, (∀ k, k < i → X k ≠ 47) → slB X i = 0
  | 0, _ => rfl
  | i + 1, h => by
    show (if X i = 47 then i + 1 else slB X i) = 0
    rw [if_neg (h i (by omega))]; exact slB_0 (fun k hk => h k (by omega))
theorem slB_c {c : Nat} (hc : X c = 47) : ∀ {i : Nat}, c < i → (∀ k, c < k → k < i → X k ≠ 47) → slB X i = c + 1
  | 0, h, _ => absurd h (Nat.not_lt_zero c)
  | i + 1, h, h2 => by
    show (if X i = 47 then i + 1 else slB X i) = c + 1
    by_cases q : c = i
    · subst q; rw [if_pos hc]
    · rw [if_neg (h2 i (by omega) (by omega))]; exact slB_c hc (by omega) (fun k hk hk2 => h2 k hk (by omega))
def cfB (X : Nat → Nat) (i : Nat) : Bool := ftB X i (slB X i)
theorem cf_rd (X : Nat → Nat) (l : Nat) : fst (fun i => !cfB X i) l = rdE X l := by
  have hc8 := pf_le (X := X) (l := l) (a := 0) (m := 8)
  have hcl := pf_l (X := X) (l := l) (a := 0) (m := 8) (Nat.zero_le l)
  have A : ∀ k, k < pf X l 0 8 → pnB (X k) = true := fun k hk => by
    have := (pf_in hk).2
    rwa [Nat.zero_add] at this
  have B : pf X l 0 8 < 8 → pf X l 0 8 < l → pnB (X (pf X l 0 8)) = false := fun h1 h2 => by
    have := pf_end h1
    rw [Nat.zero_add] at this
    cases q : pnB (X (pf X l 0 8))
    · rfl
    · exact absurd ⟨h2, q⟩ this
  have hmc := pf_le (X := X) (l := l) (a := pf X l 0 8 + 1) (m := pf X l 0 8)
  have D : ∀ k, k < pf X l (pf X l 0 8 + 1) (pf X l 0 8) → pf X l 0 8 + 1 + k < l ∧ pnB (X (pf X l 0 8 + 1 + k)) = true := fun k hk => pf_in hk
  have E : pf X l (pf X l 0 8 + 1) (pf X l 0 8) < pf X l 0 8 → pf X l 0 8 + 1 + pf X l (pf X l 0 8 + 1) (pf X l 0 8) < l → pnB (X (pf X l 0 8 + 1 + pf X l (pf X l 0 8 + 1) (pf X l 0 8))) = false := fun h1 h2 => by
    have := pf_end h1
    cases q : pnB (X (pf X l 0 8 + 1 + pf X l (pf X l 0 8 + 1) (pf X l 0 8)))
    · rfl
    · exact absurd ⟨h2, q⟩ this
  have F : pf X l 0 8 + 1 ≤ l → pf X l 0 8 + 1 + pf X l (pf X l 0 8 + 1) (pf X l 0 8) ≤ l := fun h => pf_l h
  rw [rdE]
  generalize pf X l (pf X l 0 8 + 1) (pf X l 0 8) = m at *
  generalize pf X l 0 8 = c at *
  have Z : ∀ k, k ≤ c → slB X k = 0 := fun k hk => slB_0 (fun i hi => pnB_47 (A i (by omega)))
  have G : ∀ k, k < c → cfB X k = true := fun k hk => by
    rw [cfB, Z k (by omega), ftB, if_pos rfl, if_neg (pnB_47 (A k hk)), A k hk, decide_eq_true (by omega)]; rfl
  by_cases q : 2 ≤ c ∧ c < l ∧ X c = 47
  · rw [if_pos q]
    obtain ⟨q1, q2, q3⟩ := q
    have S : ∀ k, k ≤ m → slB X (c + 1 + k) = c + 1 := fun k hk => slB_c q3 (by omega) (fun i h1 h2 => by
      have := (D (i - (c + 1)) (by omega)).2
      rw [show c + 1 + (i - (c + 1)) = i by omega] at this
      exact pnB_47 this)
    refine fst_eq (F (by omega)) (fun k hk => ?_) (fun hk => ?_)
    · rw [Bool.not_eq_false']
      rcases Nat.lt_trichotomy k c with h | h | h
      · exact G k h
      · subst h
        rw [cfB, Z k (by omega), ftB, if_pos rfl, if_pos q3, decide_eq_true q1]
      · have e : k = c + 1 + (k - (c + 1)) := by omega
        have dd := (D (k - (c + 1)) (by omega)).2
        rw [← e] at dd
        have s := S (k - (c + 1)) (by omega)
        rw [← e] at s
        rw [cfB, s, ftB, if_neg (by omega), dd, decide_eq_true (by omega)]; rfl
    · rw [Bool.not_eq_true', cfB, S m (Nat.le_refl m), ftB, if_neg (by omega)]
      by_cases g : m < c
      · rw [E g hk, Bool.and_false]
      · rw [decide_eq_false (by omega)]; rfl
  · rw [if_neg q]
    refine fst_eq (by omega) (fun k hk => by rw [G k hk]; rfl) (fun hk => ?_)
    rw [Bool.not_eq_true', cfB, Z c (Nat.le_refl c), ftB, if_pos rfl]
    by_cases g : X c = 47
    · rw [if_pos g, decide_eq_false (fun e => q ⟨e, hk, g⟩)]
    · rw [if_neg g]
      by_cases g8 : c < 8
      · rw [B g8 hk, Bool.and_false]
      · rw [decide_eq_false g8]; rfl
theorem e4_channelFault (h : CTx σ l X) : f_X4_channelFault σ = some (nI (rdE X l), σ) := by
  have h' := h
  obtain ⟨t1, t2, t3⟩ := h
  rw [f_X4_channelFault, show (-1 : Int32) = tI (slB X 0) from tI_0.symm, ← cf_rd]
  have hle := fst_le (fun i => !cfB X i) l
  refine lpE (fun n (a : Int32 × Int32) => f_X4_channelFault_4 _ n a.1 a.2 σ) (fun i => (tI (slB X i), nI i)) l _ (fst (fun i => !cfB X i) l) hle (by omega) (fun n i hi => ?_) (fun n => ?_)
  · have q1 := fst_no _ _ _ hi
    rw [Bool.not_eq_false'] at q1
    have c1 : ¬ l ≤ i := by omega
    have fi := e4_fits h' (i := i) (s := slB X i) (by omega) (by have := slB_le (X := X) i; omega)
    rw [show ftB X i (slB X i) = cfB X i from rfl, q1] at fi
    obtain ⟨x1, x2⟩ := t3 i (by omega)
    show f_X4_channelFault_4 _ (n + 1) (tI (slB X i)) (nI i) σ = f_X4_channelFault_4 _ n (tI (slB X (i + 1))) (nI (i + 1)) σ
    rw [f_X4_channelFault_4, t1, if_neg (xn_le (by omega) (by omega)), fi, bnd_some, if_neg (show ¬ b2i true = 0 by decide), gi_nI (by omega) (by omega), nI_clS (by omega), x1, xn_s]
    simp only [jn_def]
    have e : slB X (i + 1) = if X i = 47 then i + 1 else slB X i := rfl
    by_cases q : X i = 47
    · rw [if_pos (show nI (X i) = (47 : Int32) by rw [q]; rfl), e, if_pos q, tI_succ]
    · rw [if_neg (show ¬ nI (X i) = (47 : Int32) from nlit (m := 47) (by omega) (by omega) q), e, if_neg q]
  · have q1 := fst_yes (fun i => !cfB X i) l
    generalize fst (fun i => !cfB X i) l = e at *
    show f_X4_channelFault_4 _ (n + 1) (tI (slB X e)) (nI e) σ = _
    rw [f_X4_channelFault_4, t1]
    by_cases c1 : l ≤ e
    · have : e = l := by omega
      rw [if_pos (xy_le c1 (by omega)), this]
    · have fi := e4_fits h' (i := e) (s := slB X e) (by omega) (by have := slB_le (X := X) e; omega)
      have q2 := q1 (by omega)
      rw [Bool.not_eq_true'] at q2
      rw [show ftB X e (slB X e) = cfB X e from rfl, q2] at fi
      rw [if_neg (xn_le (by omega) (by omega)), fi, bnd_some]; rfl
theorem rdW_iff : (rdW X l = true ↔ l = 2 * (l / 2) + 1 ∧ X (l / 2) = 47 ∧ rdE X l = l) ∧ (rdW X l = true → pf X l 0 8 = l / 2) := by
  have hcl := pf_l (X := X) (l := l) (a := 0) (m := 8) (Nat.zero_le l)
  have A : ∀ k, k < pf X l 0 8 → X k ≠ 47 := fun k hk => by
    have := (pf_in hk).2
    rw [Nat.zero_add] at this
    exact pnB_47 this
  have hmc := pf_le (X := X) (l := l) (a := pf X l 0 8 + 1) (m := pf X l 0 8)
  rw [rdW, rdE, decide_eq_true_eq]
  generalize pf X l (pf X l 0 8 + 1) (pf X l 0 8) = m at *
  generalize pf X l 0 8 = c at *
  refine ⟨⟨?_, ?_⟩, fun h => by omega⟩
  · rintro ⟨h1, h2, h3, h4, h5⟩
    have e : l / 2 = c := by omega
    rw [e, if_pos ⟨h1, h2, h3⟩]
    exact ⟨by omega, h3, by omega⟩
  · rintro ⟨h1, h2, h3⟩
    by_cases q : 2 ≤ c ∧ c < l ∧ X c = 47
    · rw [if_pos q] at h3
      have : ¬ l / 2 < c := fun e => A _ e h2
      exact ⟨q.1, q.2.1, q.2.2, by omega, by omega⟩
    · rw [if_neg q] at h3
      exact absurd h2 (A _ (by omega))
theorem e4_columns (h : CTx σ l X) : f_X4_columnsOfChannel σ = some (if rdW X l = true then nI (pf X l 0 8) else -1, σ) := by
  have cf := e4_channelFault h
  obtain ⟨t1, t2, t3⟩ := h
  obtain ⟨w1, w2⟩ := rdW_iff (X := X) (l := l)
  have hr : rdE X l ≤ l := by rw [← cf_rd]; exact fst_le _ l
  have e2 : nI l / 2 = nI (l / 2) := pk_div (d := 2) (by omega) (by omega) (by omega)
  rw [f_X4_columnsOfChannel, show gz 2 = gz (α := Int32 × xSt) (nI 2) from rfl, gz_nI (by omega) (by omega), t1, vb_def, e2]
  simp only [jn_def]
  rw [show (2 : Int32) * nI (l / 2) + 1 = nI (2 * (l / 2) + 1) by rw [show (2 : Int32) * nI (l / 2) = nI (2 * (l / 2)) from mulI 2 _]; exact xn_s _]
  by_cases q1 : l = 2 * (l / 2) + 1
  · obtain ⟨x1, x2⟩ := t3 (l / 2) (by omega)
    rw [if_pos (by rw [← q1]), gi_nI (by omega) (by omega), nI_clS (by omega), x1]
    by_cases q2 : X (l / 2) = 47
    · rw [if_pos (show nI (X (l / 2)) = (47 : Int32) by rw [q2]; rfl), cf, bnd_some, t1]
      by_cases q3 : rdE X l = l
      · have w := w1.mpr ⟨q1, q2, q3⟩
        rw [if_pos (by rw [q3]), if_pos w, w2 w]
      · rw [if_neg (fun e => q3 ((nI_eq (by omega) (by omega)).mp e)), if_neg (fun e => q3 (w1.mp e).2.2)]
    · rw [if_neg (show ¬ nI (X (l / 2)) = (47 : Int32) from nlit (m := 47) (by omega) (by omega) q2), if_neg (fun e => q2 (w1.mp e).2.1)]
  · rw [if_neg (fun e => q1 ((nI_eq (by omega) (by omega)).mp e)), if_neg (fun e => q1 (w1.mp e).1)]
end
