/-! ===== what is asked: about, ink, cell, count ===== -/
section
variable {σ τ σ' τ' : xSt} {n C l b : Nat} {P T X : Nat → Nat}
theorem RTN (h1 : ∀ c k, c ≤ 2 → ¬ (c = 0 ∧ k = 7) → σ'.1 c k = σ.1 c k) (h2 : ∀ c k, (c = 9 ∨ (c = 0 ∧ (k = 14 ∨ k = 3 ∨ k = 13))) → τ'.1 c k = τ.1 c k) (ht : RT σ τ l X) (hn : RN σ τ b) : RT σ' τ' l X ∧ RN σ' τ' b := by
  refine ⟨ht.ext (fun c k hk => h1 c k (by omega) (by omega)) (fun c k hk => h2 c k ?_), hn.ext (fun k hk => h1 0 k (by omega) (by omega)) (fun k hk => h2 0 k ?_)⟩
  · rcases hk with hk | ⟨h3, h4⟩
    · exact Or.inl hk
    · exact Or.inr ⟨h3, Or.inl h4⟩
  · rcases hk with hk | hk
    · exact Or.inr ⟨rfl, Or.inr (Or.inl hk)⟩
    · exact Or.inr ⟨rfl, Or.inr (Or.inr hk)⟩
theorem RM.lay (h : RM τ n C P T) (h1 : HM τ' (sgs P n C 6)) (h2 : MB τ' (sgs P n C 6).length (bel P n (sgs P n C 6))) (h3 : MF τ' (sgs P n C 6).length (far (bel P n (sgs P n C 6)) (sgs P n C 6).length)) (hf : Fr sA τ τ') : RM τ' n C P T :=
  ⟨h.1.frA hf, (hf.1 0 2 rfl).trans h.2.1, h1, h2, h3, ⟨fun q => (hf.1 0 11 rfl).trans (h.mr.1 q), fun a l q => ⟨(hf.1 0 11 rfl).trans (h.mr.2 a l q).1, fun k hk => (hf.1 8 k rfl).trans ((h.mr.2 a l q).2 k hk)⟩⟩, fun s hs => ⟨(hf.1 5 s rfl).trans (h.mt s hs).1, (h.mt s hs).2⟩⟩
theorem RR.brk (h : RR σ τ n C P T l X b) (h0 : Fr (sC 14) σ σ') (h1 : HM τ' (sgs P n C 6)) (h2 : MB τ' (sgs P n C 6).length (bel P n (sgs P n C 6))) (h3 : MF τ' (sgs P n C 6).length (far (bel P n (sgs P n C 6)) (sgs P n C 6).length)) (hf : Fr sA τ τ') : RR σ' τ' n C P T l X b := by
  have h5 : RC σ' n C P T := h.1.ext (fun c k hk => h0.1 c k (by
    simp only [rC, Bool.or_eq_true, Bool.and_eq_true, decide_eq_true_eq] at hk
    simp only [sC, Bool.and_eq_false_iff, decide_eq_false_iff_not]
    omega))
  obtain ⟨h6, h7⟩ := RTN (σ' := σ') (τ' := τ') (fun c k hc _ => h0.1 c k (by
    simp only [sC, Bool.and_eq_false_iff, decide_eq_false_iff_not]; omega)) (fun c k hk => hf.1 c k (by
    simp only [sA, sS, Bool.or_eq_false_iff, Bool.and_eq_false_iff, decide_eq_false_iff_not]; omega)) h.2.2.1 h.2.2.2
  exact ⟨h5, h.2.1.lay h1 h2 h3 hf, h6, h7⟩
theorem RR.s11 (h : RR σ τ n C P T l X b) (hf : Fr s11 τ τ') : RR σ τ' n C P T l X b := h.rd (fun _ _ _ => rfl) (fun c k hk => hf.1 c k (by
  simp only [rM, Bool.or_eq_true, Bool.and_eq_true, decide_eq_true_eq] at hk
  simp only [Jvm.Pilot.CChannelTracksLaw_law_r7601_51cadc.s11, decide_eq_false_iff_not]
  omega))
theorem o_aboutNow (h : RR σ τ n C P T l X b) (hn0 : 0 < n) {j : Nat} (hj : j < 10) : ∃ r σ' τ', f_X6_about (nI j) σ = some (r, σ') ∧ f_X7_aboutNow (nI j) τ = some (r, τ') ∧ RR σ' τ' n C P T l X b ∧ τ'.2 = τ.2 := by
  have h6 := h.1
  have h7 := h.2.1
  have hC := h6.1
  have hM := h7.1
  have hn := hC.2.1
  have hl := h6.len
  have hc := e6_hasChannel hC
  rw [decide_eq_true hn0] at hc
  have d6 : f_X6_about (nI j) σ = (if nI j = 0 then (some (σ.1 3 1, σ)) else (if nI j = 1 then (some (σ.1 5 8, σ)) else (if nI j = 2 then (some (σ.1 25 3, σ)) else (if nI j = 3 then (some (σ.1 5 9, σ)) else (if nI j = 4 then (some (σ.1 23 1, σ)) else (if nI j = 5 then (bnd (f_X6_breakingSet σ) (fun r33 s34 => some (r33, s34))) else (if nI j = 6 then (some (σ.1 25 2, σ)) else (if nI j = 7 then (bnd (f_X1_depth σ) (fun r37 s38 => some (r37, s38))) else (if nI j = 8 then (bnd (f_X1_isValid σ) (fun r40 s41 => jn (fun (v42 : Int32) (s43 : xSt) => some (v42, s43)) (fun j44 => if r40 = 0 then (j44 0 s41) else (j44 1 s41)))) else (bnd (f_X1_conflicts σ) (fun r46 s47 => some (r46, s47)))))))))))) := by
    rw [f_X6_about, jn_def, if_neg (show ¬ nI j < (0 : Int32) from xn_lt (b := 0) (Nat.zero_le j) (by omega)), if_pos (show nI j ≤ (9 : Int32) from xy_le (b := 9) (by omega) (by omega)), hc, bnd_some, if_neg (show ¬ b2i true = 0 by decide)]
  rcases (show j = 0 ∨ j = 1 ∨ j = 2 ∨ j = 3 ∨ j = 4 ∨ j = 5 ∨ j = 6 ∨ j = 7 ∨ j = 8 ∨ j = 9 by omega) with q | q | q | q | q | q | q | q | q | q <;> subst q
  · refine ⟨nI n, σ, τ, ?_, ?_, h, rfl⟩
    · rw [d6, if_pos (by decide), hC.1]
    · rw [f_X7_aboutNow, if_pos (by decide), hM.1]
  · refine ⟨nI (sgs P n C 6).length, σ, τ, ?_, ?_, h, rfl⟩
    · rw [d6, if_neg (by decide), if_pos (by decide), h6.cs.1]
    · rw [f_X7_aboutNow, if_neg (by decide), if_pos (by decide), h7.ms.1]
  · refine ⟨σ.1 25 3, σ, τ, ?_, ?_, h, rfl⟩
    · rw [d6, if_neg (by decide), if_neg (by decide), if_pos (by decide)]
    · rw [f_X7_aboutNow, if_neg (by decide), if_neg (by decide), if_pos (by decide), e7_density hM h7.ms, bnd_some, h6.2.2.2.2.2.1.1]
  · obtain ⟨τ1, a1, a2⟩ := e7_chain belB h7.ms.1 hl h7.mb h7.mr
    refine ⟨chI (bel P n (sgs P n C 6)) (sgs P n C 6).length, σ, τ1, ?_, ?_, h.s11 a2, a2.2⟩
    · rw [d6, if_neg (by decide), if_neg (by decide), if_neg (by decide), if_pos (by decide)]
      have : σ.1 5 9 = chI (bel P n (sgs P n C 6)) (sgs P n C 6).length := by
        rw [chI]
        by_cases q : cyc (bel P n (sgs P n C 6)) (sgs P n C 6).length
        · rw [cyB_t belB q, if_pos rfl]; exact (h6.2.2.2.1.2.2.2.2 q).1
        · rw [cyB_f belB q, if_neg (by decide)]; exact (h6.2.2.2.1.2.2.2.1 q).1
      rw [this]
    · rw [f_X7_aboutNow, if_neg (by decide), if_neg (by decide), if_neg (by decide), if_pos (by decide), a1]; rfl
  · obtain ⟨l', f, hl', c1, m1, _⟩ := R_ring h6 h7
    refine ⟨nI l', σ, τ, ?_, ?_, h, rfl⟩
    · rw [d6, if_neg (by decide), if_neg (by decide), if_neg (by decide), if_neg (by decide), if_pos (by decide), c1]
    · rw [f_X7_aboutNow, if_neg (by decide), if_neg (by decide), if_neg (by decide), if_neg (by decide), if_pos (by decide), m1]
  · obtain ⟨σ1, a1, a2⟩ := e6_breakingSet hC
    obtain ⟨τ1, c1, c2, c3, c4, c5⟩ := e7_breakNow hM h6.2.1 h7.2.1
    refine ⟨brk P n, σ1, τ1, ?_, ?_, h.brk a2 c2 c3 c4 c5, c5.2⟩
    · rw [d6, if_neg (by decide), if_neg (by decide), if_neg (by decide), if_neg (by decide), if_neg (by decide), if_pos (by decide), a1, bnd_some]
    · rw [f_X7_aboutNow, if_neg (by decide), if_neg (by decide), if_neg (by decide), if_neg (by decide), if_neg (by decide), if_pos (by decide), c1, bnd_some]
  · refine ⟨σ.1 25 2, σ, τ, ?_, ?_, h, rfl⟩
    · rw [d6, if_neg (by decide), if_neg (by decide), if_neg (by decide), if_neg (by decide), if_neg (by decide), if_neg (by decide), if_pos (by decide)]
    · rw [f_X7_aboutNow, if_neg (by decide), if_neg (by decide), if_neg (by decide), if_neg (by decide), if_neg (by decide), if_neg (by decide), if_pos (by decide), e7_zones_m1 hM h7.ms, bnd_some, h6.2.2.2.2.2.1.2.1]
  · have hd := e1_depth h6.2.2.2.2.2.2
    rw [mxN14 h6.2.2.2.2.2.2 hl] at hd
    refine ⟨nI (mxN T (sgs P n C 6).length), σ, τ, ?_, ?_, h, rfl⟩
    · rw [d6, if_neg (by decide), if_neg (by decide), if_neg (by decide), if_neg (by decide), if_neg (by decide), if_neg (by decide), if_neg (by decide), if_pos (by decide), hd, bnd_some]
    · rw [f_X7_aboutNow, if_neg (by decide), if_neg (by decide), if_neg (by decide), if_neg (by decide), if_neg (by decide), if_neg (by decide), if_neg (by decide), if_pos (by decide), e7_depth h7.ms.1 hl h7.mt, bnd_some]
  · refine ⟨b2i (valB T (gN (sgs P n C 6)) (gF (sgs P n C 6)) (gL (sgs P n C 6)) (bel P n (sgs P n C 6)) (sgs P n C 6).length), σ, τ, ?_, ?_, h, rfl⟩
    · rw [d6, if_neg (by decide), if_neg (by decide), if_neg (by decide), if_neg (by decide), if_neg (by decide), if_neg (by decide), if_neg (by decide), if_neg (by decide), if_pos (by decide), e1_isValid h6.cs h6.cb h6.2.2.2.2.2.2, bnd_some]
      cases valB T (gN (sgs P n C 6)) (gF (sgs P n C 6)) (gL (sgs P n C 6)) (bel P n (sgs P n C 6)) (sgs P n C 6).length <;> rfl
    · rw [f_X7_aboutNow, if_neg (by decide), if_neg (by decide), if_neg (by decide), if_neg (by decide), if_neg (by decide), if_neg (by decide), if_neg (by decide), if_neg (by decide), if_pos (by decide), e7_fits h7.ms h7.mb h7.mt belS, bnd_some]
      cases valB T (gN (sgs P n C 6)) (gF (sgs P n C 6)) (gL (sgs P n C 6)) (bel P n (sgs P n C 6)) (sgs P n C 6).length <;> rfl
  · refine ⟨nI (clS P T (gN (sgs P n C 6)) (gF (sgs P n C 6)) (gL (sgs P n C 6)) (sgs P n C 6).length n (mxN T (sgs P n C 6).length)), σ, τ, ?_, ?_, h, rfl⟩
    · rw [d6, if_neg (by decide), if_neg (by decide), if_neg (by decide), if_neg (by decide), if_neg (by decide), if_neg (by decide), if_neg (by decide), if_neg (by decide), if_neg (by decide), e1_conflicts hC h6.cs h6.ca h6.2.2.2.2.2.2, bnd_some]
    · rw [f_X7_aboutNow, if_neg (by decide), if_neg (by decide), if_neg (by decide), if_neg (by decide), if_neg (by decide), if_neg (by decide), if_neg (by decide), if_neg (by decide), if_neg (by decide), e7_clashes hM h7.ms h7.mt, bnd_some]
theorem o_about (h : RR σ τ n C P T l X b) (a : Int32) : ∃ r σ' τ', f_X6_about a σ = some (r, σ') ∧ f_X7_about a τ = some (r, τ') ∧ RR σ' τ' n C P T l X b := by
  have h6 := h.1
  have h7 := h.2.1
  rcases c_lt a 10 (by omega) with ⟨j, h1, h2⟩ | h1
  · subst h2
    have w := w_t (hi := 9) (show j ≤ 9 by omega) (by omega)
    rcases Nat.eq_zero_or_pos n with hn | hn
    · have hc := e6_hasChannel h6.1
      have hi := e7_isThere h7.1
      rw [decide_eq_false (by omega)] at hc hi
      refine ⟨-103, σ, τ, ?_, ?_, h⟩
      · rw [f_X6_about, jn_def, if_neg (show ¬ nI j < (0 : Int32) from xn_lt (b := 0) (Nat.zero_le j) (by omega)), if_pos (show nI j ≤ (9 : Int32) from xy_le (b := 9) (by omega) (by omega)), hc, bnd_some]; rfl
      · rw [f_X7_about, e7_within, show (decide ((0 : Int32) ≤ nI j) && decide (nI j ≤ 9)) = true from w, bnd_some, if_neg (show ¬ b2i true = 0 by decide), hi, bnd_some]; rfl
    · obtain ⟨r, σ', τ', a1, a2, a3, _⟩ := o_aboutNow h hn h1
      have hi := e7_isThere h7.1
      rw [decide_eq_true hn] at hi
      refine ⟨r, σ', τ', a1, ?_, a3⟩
      rw [f_X7_about, e7_within, show (decide ((0 : Int32) ≤ nI j) && decide (nI j ≤ 9)) = true from w, bnd_some, if_neg (show ¬ b2i true = 0 by decide), hi, bnd_some, jn_def, if_neg (show ¬ b2i true = 0 by decide), a2]; rfl
  · refine ⟨-102, σ, τ, ?_, ?_, h⟩
    · rw [f_X6_about, jn_def]
      by_cases q : a < 0
      · rw [if_pos q]
      · rcases h1 with h1 | h1
        · exact absurd h1 q
        · have : ¬ a ≤ (9 : Int32) := by
            rcases i_cases a with h2 | ⟨j, h2, h3⟩
            · exact absurd h2 q
            · subst h3
              rw [nI_leS (by omega) h2] at h1
              exact xn_le (b := 9) (by omega) h2
          rw [if_neg q, if_neg this]
    · rw [f_X7_about, e7_within, show (decide ((0 : Int32) ≤ a) && decide (a ≤ 9)) = false from w_f (hi := 9) (by omega) h1]; rfl
theorem e6_inkOf {x : Nat} (hx : x < 64) : f_X6_inkOf (nI x) σ = some (inkC x, σ) := by
  have hp := pc_le x 16
  rw [f_X6_inkOf, inkC]
  by_cases q : x = 0
  · subst q; rfl
  · have c0 : ¬ nI x = (0 : Int32) := by
      have := nI_eqS (a := x) (b := 0) (by omega) (by omega)
      exact fun e => q (this.mp e)
    rw [if_neg c0, if_neg q, eJ_bitCount (by omega), bnd_some, jn_def]
    have l1 : (nI (pc x 16) ≤ (1 : Int32)) = (pc x 16 ≤ 1) := nI_leS (b := 1) (by omega) (by omega)
    by_cases g : pc x 16 ≤ 1
    · rw [if_pos (l1.mpr g), if_pos g, e6_lowest (by omega), bnd_some, low_eq x hx]; rfl
    · rw [if_neg (fun e => g (l1.mp e)), if_neg g]; rfl
theorem o_ink (h6 : RC σ n C P T) (h7 : RM τ n C P T) (a : Int32) : ∃ r, f_X6_ink a σ = some (r, σ) ∧ f_X7_ink a τ = some (r, τ) ∧ ∀ p, p < (if 0 < n ∧ 0 < mxN T (sgs P n C 6).length then mxN T (sgs P n C 6).length * (n + 1) - 1 else 0) → a = nI p → f_X7_inkNow a τ = some (r, τ) := by
  have hC := h6.1
  have hM := h7.1
  have hn := hC.2.1
  have hl := h6.len
  have hT := h6.2.2.2.2.2.2
  have hd := e1_depth hT
  rw [mxN14 hT hl] at hd
  have hD : mxN T (sgs P n C 6).length ≤ 14 := mxN_le (fun j hj => (h7.mt j hj).2)
  have hil := e7_inkLength hM h7.ms h7.mt
  have hc := e6_hasChannel hC
  have hne : ∀ s, s < (sgs P n C 6).length → gN (sgs P n C 6) s < 6 := fun s hs => (h6.cs.2.2 s hs).2.1
  have hT' : ∀ s, s < (sgs P n C 6).length → σ.1 29 s = tI (T s) ∧ T s ≤ 14 := fun s hs => hT.1 s (by omega)
  have hhz := fun r c (h1 : r < 100) (h2 : c < 100) => e1_horizontalNets h6.cs hT' (r := r) (c := c) h1 h2
  have hin := fun p (hn0 : 0 < n) (hp : p < 200) => e7_inkNow hM h7.ms h7.mt (p := p) hn0 hp
  have hmk : ∀ r c, msk (gN (sgs P n C 6)) (fun s => decide (T s = r + 1) && wi (gF (sgs P n C 6)) (gL (sgs P n C 6)) s c) (sgs P n C 6).length < 64 := fun r c => msk_lt hne
  generalize mxN T (sgs P n C 6).length = D at *
  generalize hLn : (if 0 < n ∧ 0 < D then D * (n + 1) - 1 else 0) = Ln at *
  have hLn1 : Ln < 1000 := by
    rw [← hLn]
    split
    · have : D * (n + 1) ≤ 14 * 9 := Nat.mul_le_mul hD (by omega)
      omega
    · omega
  have hout : (a < 0 ∨ nI Ln ≤ a) → f_X7_ink a τ = some (-101, τ) := fun hh => by
    obtain ⟨_, q2⟩ := in_f hLn1 hh
    rw [f_X7_ink, hil, bnd_some, e7_within, q2]; rfl
  by_cases q0 : a < 0
  · refine ⟨-101, ?_, hout (Or.inl q0), fun p hp e => absurd e (neg_ne q0 p (by omega))⟩
    rw [f_X6_ink, hc, bnd_some, jn_def]
    by_cases g : 0 < n
    · rw [decide_eq_true g, if_neg (show ¬ b2i true = 0 by decide), if_neg (Int32.not_le.mpr q0)]
    · rw [decide_eq_false g]; rfl
  · rcases i_cases a with h0 | ⟨p, h1, h2⟩
    · exact absurd h0 q0
    · subst h2
      by_cases hn0 : 0 < n
      · rw [decide_eq_true hn0] at hc
        have hm : p % (n + 1) < n + 1 := Nat.mod_lt _ (by omega)
        have hdm := Nat.div_add_mod p (n + 1)
        have e1 : nI p - nI p / nI (n + 1) * nI (n + 1) = nI (p % (n + 1)) := pk_rem (by omega) (by omega) (by omega)
        have e2 : nI p / nI (n + 1) = nI (p / (n + 1)) := pk_div (by omega) (by omega) (by omega)
        have hple : p / (n + 1) ≤ p := Nat.div_le_self _ _
        have hn1 : nI n + 1 = nI (n + 1) := xn_s n
        have d6 : f_X6_ink (nI p) σ = (if nI (p / (n + 1)) < nI D then (if nI n ≤ nI (p % (n + 1)) then (if (nI D - 1) ≤ nI (p / (n + 1)) then some (-101, σ) else some (47, σ)) else (bnd (f_X1_horizontalNets (nI (p / (n + 1))) (nI (p % (n + 1))) σ) (fun r26 s27 => bnd (f_X6_inkOf r26 s27) (fun r28 s29 => some (r28, s29))))) else (some ((-101), σ))) := by
          rw [f_X6_ink, hc, bnd_some, jn_def, if_neg (show ¬ b2i true = 0 by decide), if_pos (show (0 : Int32) ≤ nI p from xy_le (a := 0) (Nat.zero_le p) (by omega)), hC.1, hn1, vb_def, gz_nI (by omega) (by omega), vb_def, gz_nI (by omega) (by omega), vb_def, e1, e2, hd, bnd_some, hC.1, jn_def]
        have hIn := hin p hn0
        generalize p % (n + 1) = c at *
        generalize p / (n + 1) = t at *
        by_cases g1 : t < D
        · have hLe : Ln = D * (n + 1) - 1 := by rw [← hLn, if_pos ⟨hn0, by omega⟩]
          have hmul : (n + 1) * (t + 1) ≤ (n + 1) * D := Nat.mul_le_mul_left _ g1
          rw [Nat.mul_succ] at hmul
          rw [Nat.mul_comm D] at hLe
          by_cases g2 : n ≤ c
          · have hcn : c = n := by omega
            by_cases g3 : D - 1 ≤ t
            · have htD : t + 1 = D := by omega
              have hp : Ln = p := by
                have : (n + 1) * D = (n + 1) * t + (n + 1) := by rw [← htD, Nat.mul_succ]
                omega
              refine ⟨-101, ?_, hout (Or.inr (by rw [hp]; exact Int32.le_refl _)), fun p' hp' e => ?_⟩
              · rw [d6, if_pos (xy_lt g1 (by omega)), if_pos (xy_le g2 (by omega)), show nI D - 1 = nI (D - 1) from subI (b := 1) (by omega), if_pos (xy_le g3 (by omega))]
              · have := (nI_eq (by omega) (by omega)).mp e
                omega
            · have hp : p < Ln := by
                have h3 : (n + 1) * (t + 2) ≤ (n + 1) * D := Nat.mul_le_mul_left _ (by omega)
                rw [Nat.mul_succ, Nat.mul_succ] at h3
                omega
              have hlt : p < 200 := by
                have : (n + 1) * D ≤ 9 * 14 := Nat.mul_le_mul (by omega) hD
                omega
              have hI := hIn hlt
              rw [if_pos hcn] at hI
              refine ⟨nI 47, ?_, ?_, fun _ _ _ => hI⟩
              · rw [d6, if_pos (xy_lt g1 (by omega)), if_pos (xy_le g2 (by omega)), show nI D - 1 = nI (D - 1) from subI (b := 1) (by omega), if_neg (xn_le (by omega) (by omega))]; rfl
              · obtain ⟨_, w⟩ := in_t hLn1 hp
                rw [f_X7_ink, hil, bnd_some, e7_within, w, bnd_some, jn_def, if_neg (show ¬ b2i true = 0 by decide), hI]; rfl
          · have hp : p < Ln := by omega
            have hlt : p < 200 := by
              have : (n + 1) * D ≤ 9 * 14 := Nat.mul_le_mul (by omega) hD
              omega
            have hI := hIn hlt
            rw [if_neg (by omega)] at hI
            have hz := hhz t c (by omega) (by omega)
            have hx := hmk t c
            generalize msk (gN (sgs P n C 6)) (fun s => decide (T s = t + 1) && wi (gF (sgs P n C 6)) (gL (sgs P n C 6)) s c) (sgs P n C 6).length = x at *
            refine ⟨inkC x, ?_, ?_, fun _ _ _ => hI⟩
            · rw [d6, if_pos (xy_lt g1 (by omega)), if_neg (xn_le (by omega) (by omega)), hz, bnd_some, e6_inkOf hx]; rfl
            · obtain ⟨_, w⟩ := in_t hLn1 hp
              rw [f_X7_ink, hil, bnd_some, e7_within, w, bnd_some, jn_def, if_neg (show ¬ b2i true = 0 by decide), hI]; rfl
        · have hp : Ln ≤ p := by
            have hmul : (n + 1) * D ≤ (n + 1) * t := Nat.mul_le_mul_left _ (by omega)
            rw [Nat.mul_comm] at hmul
            rw [← hLn]
            split <;> omega
          refine ⟨-101, ?_, hout (Or.inr (xy_le hp h1)), fun p' hp' e => ?_⟩
          · rw [d6, if_neg (xn_lt (by omega) (by omega))]
          · have := (nI_eq h1 (by omega)).mp e
            omega
      · rw [decide_eq_false hn0] at hc
        have hL0 : Ln = 0 := by rw [← hLn, if_neg (fun e => hn0 e.1)]
        refine ⟨-101, ?_, hout (Or.inr (by rw [hL0]; exact xy_le (Nat.zero_le p) h1)), fun p' hp' _ => by omega⟩
        rw [f_X6_ink, hc, bnd_some]; rfl
theorem e6_cell (h6 : RC σ n C P T) {r c : Nat} (hr : r < mxN T (sgs P n C 6).length) (hc : c < n) : f_X6_cell (nI r) (nI c) 0 σ = some (lowB (msk (gN (sgs P n C 6)) (fun s => decide (T s = r + 1) && wi (gF (sgs P n C 6)) (gL (sgs P n C 6)) s c) (sgs P n C 6).length) 16, σ) ∧ f_X6_cell (nI r) (nI c) 1 σ = some (lowB (vns P T (gN (sgs P n C 6)) (gF (sgs P n C 6)) (gL (sgs P n C 6)) (sgs P n C 6).length r c) 16, σ) ∧ ∀ k : Int32, k < 0 ∨ nI 2 ≤ k → f_X6_cell (nI r) (nI c) k σ = some (-102, σ) := by
  have hC := h6.1
  have hn := hC.2.1
  have hl := h6.len
  have hT := h6.2.2.2.2.2.2
  have hd := e1_depth hT
  rw [mxN14 hT hl] at hd
  have hD : mxN T (sgs P n C 6).length ≤ 14 := mxN_le (fun j hj => (hT.1 j (by omega)).2)
  have hne : ∀ s, s < (sgs P n C 6).length → gN (sgs P n C 6) s < 6 := fun s hs => (h6.cs.2.2 s hs).2.1
  have hT' : ∀ s, s < (sgs P n C 6).length → σ.1 29 s = tI (T s) ∧ T s ≤ 14 := fun s hs => hT.1 s (by omega)
  have u1 := e1_horizontalNets h6.cs hT' (show r < 100 by omega) (show c < 100 by omega)
  have u2 := e1_verticalNets hC h6.cs h6.ca hT' (show r < 100 by omega) hc
  have m1 : msk (gN (sgs P n C 6)) (fun s => decide (T s = r + 1) && wi (gF (sgs P n C 6)) (gL (sgs P n C 6)) s c) (sgs P n C 6).length < 64 := msk_lt hne
  have m2 : vns P T (gN (sgs P n C 6)) (gF (sgs P n C 6)) (gL (sgs P n C 6)) (sgs P n C 6).length r c < 64 := vns_lt hne (hC.2.2 (2 * c) (by omega)).2
  have e1 := e6_isColumn hC (nI c)
  rw [(in_t (show n < 1000 by omega) hc).1] at e1
  have d6 : ∀ k, f_X6_cell (nI r) (nI c) k σ = (if k = 0 then (bnd (f_X1_horizontalNets (nI r) (nI c) σ) (fun r22 s23 => bnd (f_X6_lowest r22 s23) (fun r24 s25 => some (r24, s25)))) else (if k = 1 then (bnd (f_X1_verticalNets (nI r) (nI c) σ) (fun r27 s28 => bnd (f_X6_lowest r27 s28) (fun r29 s30 => some (r29, s30)))) else (some ((-102), σ)))) := by
    intro k
    rw [f_X6_cell, jn_def, if_neg (show ¬ nI r < (0 : Int32) from xn_lt (b := 0) (Nat.zero_le r) (by omega)), hd, bnd_some, if_neg (xn_le hr (by omega)), e1, bnd_some, if_neg (show ¬ b2i true = 0 by decide)]
  refine ⟨?_, ?_, fun k hk => ?_⟩
  · rw [d6, if_pos rfl, u1, bnd_some, e6_lowest (by omega), bnd_some, low_eq _ m1]
  · rw [d6, if_neg (by decide), if_pos rfl, u2, bnd_some, e6_lowest (by omega), bnd_some, low_eq _ m2]
  · rw [d6, if_neg (show ¬ k = (0 : Int32) from n_lt (N := 2) (by omega) hk (j := 0) (by omega)), if_neg (show ¬ k = (1 : Int32) from n_lt (N := 2) (by omega) hk (j := 1) (by omega))]
theorem o_cell (h6 : RC σ n C P T) (h7 : RM τ n C P T) (a c k : Int32) : ∃ r, f_X6_cell a c k σ = some (r, σ) ∧ f_X7_cell a c k τ = some (r, τ) := by
  have hC := h6.1
  have hM := h7.1
  have hn := hC.2.1
  have hl := h6.len
  have hT := h6.2.2.2.2.2.2
  have hd := e1_depth hT
  rw [mxN14 hT hl] at hd
  have hd7 := e7_depth h7.ms.1 hl h7.mt
  have hD : mxN T (sgs P n C 6).length ≤ 14 := mxN_le (fun j hj => (hT.1 j (by omega)).2)
  have hne : ∀ s, s < (sgs P n C 6).length → gN (sgs P n C 6) s < 6 := fun s hs => (h6.cs.2.2 s hs).2.1
  have hi := e7_isThere hM
  have out6 : (a < 0 ∨ nI (mxN T (sgs P n C 6).length) ≤ a) ∨ (c < 0 ∨ nI n ≤ c) → f_X6_cell a c k σ = some (-101, σ) := by
    intro hh
    rw [f_X6_cell, jn_def]
    by_cases q1 : a < 0
    · rw [if_pos q1]
    · rw [if_neg q1, hd, bnd_some]
      by_cases q2 : nI (mxN T (sgs P n C 6).length) ≤ a
      · rw [if_pos q2]
      · have hc2 : c < 0 ∨ nI n ≤ c := by
          rcases hh with (hh | hh) | hh
          · exact absurd hh q1
          · exact absurd hh q2
          · exact hh
        rw [if_neg q2, e6_isColumn hC, (in_f (show n < 1000 by omega) hc2).1, bnd_some]; rfl
  have out7 : (a < 0 ∨ nI (mxN T (sgs P n C 6).length) ≤ a) ∨ (c < 0 ∨ nI n ≤ c) → f_X7_cell a c k τ = some (-101, τ) := by
    intro hh
    rw [f_X7_cell, hi, bnd_some, jn_def]
    by_cases q0 : 0 < n
    · rw [decide_eq_true q0, if_neg (show ¬ b2i true = 0 by decide), hd7, bnd_some, e7_within]
      rcases hh with hh | hh
      · rw [(in_f (show mxN T (sgs P n C 6).length < 1000 by omega) hh).2]; rfl
      · rw [bnd_some]
        by_cases q1 : b2i (decide ((0 : Int32) ≤ a) && decide (a ≤ nI (mxN T (sgs P n C 6).length) - 1)) = 0
        · rw [if_pos q1]
        · rw [if_neg q1, e7_isColumn hM, (in_f (show n < 1000 by omega) hh).2]; rfl
    · rw [decide_eq_false q0]; rfl
  rcases c_lt a (mxN T (sgs P n C 6).length) (by omega) with ⟨r, h1, h2⟩ | h1
  · rcases c_lt c n (by omega) with ⟨j, h3, h4⟩ | h3
    · subst h2 h4
      obtain ⟨s0, s1, s2⟩ := e6_cell h6 h1 h3
      have u1 := e7_flat h7.ms h7.mt (show r < 100 by omega) (show j < 100 by omega)
      have u2 := e7_upright hM h7.ms h7.mt (show r < 100 by omega) h3
      have m1 : msk (gN (sgs P n C 6)) (fun s => decide (T s = r + 1) && wi (gF (sgs P n C 6)) (gL (sgs P n C 6)) s j) (sgs P n C 6).length < 64 := msk_lt hne
      have m2 : vns P T (gN (sgs P n C 6)) (gF (sgs P n C 6)) (gL (sgs P n C 6)) (sgs P n C 6).length r j < 64 := vns_lt hne (hC.2.2 (2 * j) (by omega)).2
      rw [decide_eq_true (show 0 < n by omega)] at hi
      have e1 := e7_isColumn hM (nI j)
      rw [(in_t (show n < 1000 by omega) h3).2] at e1
      have e2 := (in_t (show mxN T (sgs P n C 6).length < 1000 by omega) h1).2
      have d7 : ∀ bb, (decide ((0 : Int32) ≤ k) && decide (k ≤ 1)) = bb → f_X7_cell (nI r) (nI j) k τ = if bb then (if k = 0 then bnd (f_X7_leastOf (nI (msk (gN (sgs P n C 6)) (fun s => decide (T s = r + 1) && wi (gF (sgs P n C 6)) (gL (sgs P n C 6)) s j) (sgs P n C 6).length)) τ) (fun r s => some (r, s)) else bnd (f_X7_leastOf (nI (vns P T (gN (sgs P n C 6)) (gF (sgs P n C 6)) (gL (sgs P n C 6)) (sgs P n C 6).length r j)) τ) (fun r s => some (r, s))) else some (-102, τ) := by
        intro bb hb
        rw [f_X7_cell, hi, bnd_some, jn_def, if_neg (show ¬ b2i true = 0 by decide), hd7, bnd_some, e7_within, e2, bnd_some, if_neg (show ¬ b2i true = 0 by decide), e1, bnd_some, if_neg (show ¬ b2i true = 0 by decide), e7_within, hb, bnd_some]
        cases bb
        · rfl
        · simp only [jn_def]
          rw [if_neg (show ¬ b2i true = 0 by decide), if_pos trivial, u1, u2, bnd_some, bnd_some]
      rcases c_lt k 2 (by omega) with ⟨d, h5, h6'⟩ | h5
      · subst h6'
        have hd7 := d7 true (w_t (hi := 1) (show d ≤ 1 by omega) (by omega))
        rw [if_pos rfl] at hd7
        rcases (show d = 0 ∨ d = 1 by omega) with q | q <;> subst q
        · rw [if_pos (show nI 0 = (0 : Int32) from rfl), e7_leastOf (big64 m1), bnd_some] at hd7
          exact ⟨_, s0, hd7⟩
        · rw [if_neg (show ¬ nI 1 = (0 : Int32) by decide), e7_leastOf (big64 m2), bnd_some] at hd7
          exact ⟨_, s1, hd7⟩
      · have hd7 := d7 false (w_f (hi := 1) (by omega) h5)
        rw [if_neg (show ¬ false = true by decide)] at hd7
        exact ⟨_, s2 k h5, hd7⟩
    · exact ⟨-101, out6 (Or.inr h3), out7 (Or.inr h3)⟩
  · exact ⟨-101, out6 (Or.inl h1), out7 (Or.inl h1)⟩
theorem o_count (h : RR σ τ n C P T l X b) (a : Int32) : ∃ r, f_X6_count a σ = some (r, σ) ∧ f_X7_howMany a τ = some (r, τ) := by
  obtain ⟨h6, h7, h8, h9⟩ := h
  have hC := h6.1
  have hM := h7.1
  have hl := h6.len
  have hT := h6.2.2.2.2.2.2
  rcases c_lt a 9 (by omega) with ⟨j, h1, h2⟩ | h1
  · subst h2
    rcases (show j = 0 ∨ j = 1 ∨ j = 2 ∨ j = 3 ∨ j = 4 ∨ j = 5 ∨ j = 6 ∨ j = 7 ∨ j = 8 by omega) with q | q | q | q | q | q | q | q | q <;> subst q
    · refine ⟨nI n, ?_, ?_⟩
      · rw [f_X6_count, if_pos (by decide), hC.1]
      · rw [f_X7_howMany, if_pos (by decide), hM.1]
    · refine ⟨nI (2 * n) - nI (cnt (fun k => decide (P k = 0)) (2 * n)), ?_, ?_⟩
      · rw [f_X6_count, if_neg (by decide), if_pos (by decide), e0_pinsOfNets hC, bnd_some]
      · have hc := e7_pinsOf hM (w := 0) (by omega)
        rw [tI_0] at hc
        rw [f_X7_howMany, if_neg (by decide), if_pos (by decide), show f_X7_pinsOf (-1) τ = f_X7_pinsOf (-nI 1) τ from rfl, hc, bnd_some, hM.1, show (2 : Int32) * nI n = nI (2 * n) from mulI 2 n]
    · refine ⟨nI (cnt (ntB P n) 6), ?_, ?_⟩
      · rw [f_X6_count, if_neg (by decide), if_neg (by decide), if_pos (by decide), e0_nets hC, bnd_some]
      · rw [f_X7_howMany, if_neg (by decide), if_neg (by decide), if_pos (by decide), e7_netsThere hM, bnd_some]
    · refine ⟨nI (pc C 16), ?_, ?_⟩
      · rw [f_X6_count, if_neg (by decide), if_neg (by decide), if_neg (by decide), if_pos (by decide), h6.2.2.1, eJ_bitCount (by have := h6.2.1; omega), bnd_some]
      · rw [f_X7_howMany, if_neg (by decide), if_neg (by decide), if_neg (by decide), if_pos (by decide), h7.2.1, e7_size (by have := h6.2.1; omega), bnd_some]
    · refine ⟨nI (sgs P n C 6).length, ?_, ?_⟩
      · rw [f_X6_count, if_neg (by decide), if_neg (by decide), if_neg (by decide), if_neg (by decide), if_pos (by decide), h6.cs.1]
      · rw [f_X7_howMany, if_neg (by decide), if_neg (by decide), if_neg (by decide), if_neg (by decide), if_pos (by decide), h7.ms.1]
    · refine ⟨nI (cnt (fun s => !decide (T s = 0)) (sgs P n C 6).length), ?_, ?_⟩
      · rw [f_X6_count, if_neg (by decide), if_neg (by decide), if_neg (by decide), if_neg (by decide), if_neg (by decide), if_pos (by decide), e1_placed hT hl, bnd_some, cnt14 hT hl]
      · rw [f_X7_howMany, if_neg (by decide), if_neg (by decide), if_neg (by decide), if_neg (by decide), if_neg (by decide), if_pos (by decide), e7_withTrack h7.ms.1 hl h7.mt, bnd_some]
    · refine ⟨nI l, ?_, ?_⟩
      · rw [f_X6_count, if_neg (by decide), if_neg (by decide), if_neg (by decide), if_neg (by decide), if_neg (by decide), if_neg (by decide), if_pos (by decide), h8.2.1]
      · rw [f_X7_howMany, if_neg (by decide), if_neg (by decide), if_neg (by decide), if_neg (by decide), if_neg (by decide), if_neg (by decide), if_pos (by decide), h8.2.2.1]
    · refine ⟨τ.1 0 3, ?_, ?_⟩
      · rw [f_X6_count, if_neg (by decide), if_neg (by decide), if_neg (by decide), if_neg (by decide), if_neg (by decide), if_neg (by decide), if_neg (by decide), if_pos (by decide), h9.2.1]
      · rw [f_X7_howMany, if_neg (by decide), if_neg (by decide), if_neg (by decide), if_neg (by decide), if_neg (by decide), if_neg (by decide), if_neg (by decide), if_pos (by decide)]
    · refine ⟨nI b, ?_, ?_⟩
      · rw [f_X6_count, if_neg (by decide), if_neg (by decide), if_neg (by decide), if_neg (by decide), if_neg (by decide), if_neg (by decide), if_neg (by decide), if_neg (by decide), if_pos (by decide), h9.2.2.1]
      · rw [f_X7_howMany, if_neg (by decide), if_neg (by decide), if_neg (by decide), if_neg (by decide), if_neg (by decide), if_neg (by decide), if_neg (by decide), if_neg (by decide), if_pos (by decide), h9.2.2.2]
  · have z : ∀ j, j < 9 → ¬ a = nI j := fun j hj => n_lt (N := 9) (by omega) h1 hj
    refine ⟨-102, ?_, ?_⟩
    · rw [f_X6_count, if_neg (show ¬ a = (0 : Int32) from z 0 (by omega)), if_neg (show ¬ a = (1 : Int32) from z 1 (by omega)), if_neg (show ¬ a = (2 : Int32) from z 2 (by omega)), if_neg (show ¬ a = (3 : Int32) from z 3 (by omega)), if_neg (show ¬ a = (4 : Int32) from z 4 (by omega)), if_neg (show ¬ a = (5 : Int32) from z 5 (by omega)), if_neg (show ¬ a = (6 : Int32) from z 6 (by omega)), if_neg (show ¬ a = (7 : Int32) from z 7 (by omega)), if_neg (show ¬ a = (8 : Int32) from z 8 (by omega))]
    · rw [f_X7_howMany, if_neg (show ¬ a = (0 : Int32) from z 0 (by omega)), if_neg (show ¬ a = (1 : Int32) from z 1 (by omega)), if_neg (show ¬ a = (2 : Int32) from z 2 (by omega)), if_neg (show ¬ a = (3 : Int32) from z 3 (by omega)), if_neg (show ¬ a = (4 : Int32) from z 4 (by omega)), if_neg (show ¬ a = (5 : Int32) from z 5 (by omega)), if_neg (show ¬ a = (6 : Int32) from z 6 (by omega)), if_neg (show ¬ a = (7 : Int32) from z 7 (by omega)), if_neg (show ¬ a = (8 : Int32) from z 8 (by omega))]
end
