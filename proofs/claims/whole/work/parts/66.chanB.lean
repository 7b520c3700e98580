/-! ===== channel ===== -/
section
variable {σ σ' τ τ' : xSt} {n C l b : Nat} {P T X : Nat → Nat}
theorem nwP_le {c : Nat} (p0 : ∀ i, i < c → pnB (X i) = true) (p1 : ∀ i, i < c → pnB (X (c + 1 + i)) = true) {k : Nat} (hk : k < 2 * c) : nwP X c k ≤ 6 := by
  rw [nwP]
  by_cases q : k % 2 = 0
  · rw [if_pos q]; exact pv_le (p0 (k / 2) (by omega))
  · rw [if_neg q]; exact pv_le (p1 (k / 2) (by omega))
theorem o_channel (h : RR σ τ n C P T l X b) : ∃ r σ' τ', f_X6_channel σ = some (r, σ') ∧ f_X7_channel τ = some (r, τ') ∧ RE σ' τ' := by
  have hc := h.2.2.1.c
  have hm := h.2.2.1.m
  have hl := h.2.2.1.1
  obtain ⟨hb, n1, n2, n3⟩ := h.2.2.2
  obtain ⟨τ1, a1, a2, a3, a4⟩ := e7_readChannel hm
  have c1 := e4_columns hc
  by_cases q : rdW X l = true
  · rw [if_pos q] at c1
    rw [q] at a3
    have q' := q
    rw [rdW, decide_eq_true_eq] at q'
    have c8 : pf X l 0 8 ≤ 8 := pf_le
    have pp : ∀ i, i < pf X l 0 8 → pnB (X (0 + i)) = true := fun i hi => (pf_in (X := X) (l := l) (a := 0) (m := 8) (k := i) hi).2
    generalize pf X l 0 8 = c at *
    obtain ⟨q1, q2, q3, q4, q5⟩ := q'
    have p0 : ∀ i, i < c → pnB (X i) = true := fun i hi => by
      have := pp i hi
      rwa [Nat.zero_add] at this
    have p1 : ∀ i, i < c → pnB (X (c + 1 + i)) = true := fun i hi => (pf_in (X := X) (l := l) (a := c + 1) (m := c) (k := i) (by rw [q4]; exact hi)).2
    have s1 : CTx (up2 σ 3 1 (nI c)) l X := ⟨(up2_cell σ 1 1 _ (by decide)).trans hc.1, hc.2.1, fun i hi => ⟨(up2_cell σ 1 i _ (by decide)).trans (hc.2.2 i hi).1, (hc.2.2 i hi).2⟩⟩
    have hm1 := hm.rd a4
    have t1 : MTx (up2 τ1 0 0 (nI c)) l X := ⟨(up2_off τ1 (by omega)).trans hm1.1, hm1.2.1, fun i hi => ⟨(up2_off τ1 (by omega)).trans (hm1.2.2 i hi).1, (hm1.2.2 i hi).2⟩⟩
    obtain ⟨σ2, b1, b2, b3⟩ := e6_pins s1 c8 q5 p0 p1 (fun (s12 : xSt) => vb (up2 s12 0 7 0) (fun s13 => bnd (f_X6_derive  s13) (fun r14 s15 => vb (up2 s15 1 1 0) (fun s16 => vb (up2 s16 0 8 ((s16.1 0 8) + 1)) (fun s17 => some (nI c, s17))))))
    obtain ⟨τ2, d1, d2, d3⟩ := e7_pins t1 (up2_same _ _ _ _) c8 q5 p0 p1 (fun (s10 : xSt) => vb (up2 s10 0 2 0) (fun s11 => vb (up2 s11 0 3 ((s11.1 0 3) + 1)) (fun s12 => vb (up2 s12 0 14 0) (fun s13 => bnd (f_X7_layNew  s13) (fun r14 s15 => some (s15.1 0 0, s15))))))
    have hP6 : ∀ k, k < 2 * c → nwP X c k ≤ 6 := fun k hk => nwP_le p0 p1 hk
    have C3 : CP (up2 σ2 0 7 0) c (nwP X c) := ⟨(up2_off σ2 (by omega)).trans ((b2.1 3 1 rfl).trans (up2_same _ _ _ _)), c8, fun k hk => ⟨(up2_off σ2 (by omega)).trans (b1 k hk), hP6 k hk⟩⟩
    have M3 : MP (up2 (up2 (up2 τ2 0 2 0) 0 3 ((up2 τ2 0 2 0).1 0 3 + 1)) 0 14 0) c (nwP X c) := ⟨(up2_off _ (by omega)).trans ((up2_off _ (by omega)).trans ((up2_off _ (by omega)).trans ((d2.1 0 0 rfl).trans (up2_same _ _ _ _)))), c8, fun k hk => ⟨(up2_off _ (by omega)).trans ((up2_off _ (by omega)).trans ((up2_off _ (by omega)).trans (d1 k hk))), hP6 k hk⟩⟩
    obtain ⟨σ4, τ4, f1, f2, f3, f4, f5, f6⟩ := R_lay2 (C := 0) C3 M3 (by omega) (up2_same _ _ _ _) ((up2_off _ (by omega)).trans ((up2_off _ (by omega)).trans (up2_same _ _ _ _)))
    have g1 : τ1.1 0 3 = τ.1 0 3 := a4.1 0 3 rfl
    have g2 : τ1.1 0 13 = τ.1 0 13 := a4.1 0 13 rfl
    have g3 : τ2.1 0 3 = τ1.1 0 3 := (d2.1 0 3 rfl).trans (up2_off _ (by omega))
    have g4 : τ2.1 0 13 = τ1.1 0 13 := (d2.1 0 13 rfl).trans (up2_off _ (by omega))
    have g5 : τ4.1 0 3 = τ2.1 0 3 + 1 := (f6.1 0 3 rfl).trans ((up2_off _ (by omega)).trans ((up2_same _ _ _ _).trans (by rw [up2_off τ2 (show ¬ ((0 : Nat) = 0 ∧ (3 : Nat) = 2) by omega)])))
    have g6 : τ4.1 0 13 = τ2.1 0 13 := (f6.1 0 13 rfl).trans ((up2_off _ (by omega)).trans ((up2_off _ (by omega)).trans (up2_off _ (by omega))))
    have g7 : τ4.1 0 14 = nI 0 := (f6.1 0 14 rfl).trans (up2_same _ _ _ _)
    have g8 : ∀ k, (k = 8 ∨ k = 9) → σ4.1 0 k = σ.1 0 k := fun k hk => by
      have e1 : σ4.1 0 k = (up2 σ2 0 7 0).1 0 k := f5.1 0 k (by rcases hk with hk | hk <;> subst hk <;> rfl)
      rw [e1, up2_off σ2 (by omega), b2.1 0 k rfl, up2_off σ (by omega)]
    refine ⟨nI c, up2 (up2 σ4 1 1 0) 0 8 ((up2 σ4 1 1 0).1 0 8 + 1), τ4, ?_, ?_, RR.e (n := c) (C := 0) (P := nwP X c) (T := fun _ => 0) (l := 0) (X := X) (b := b) ⟨f3.ext (fun i k hk => ?_), f4, ⟨by omega, (up2_off _ (by omega)).trans (up2_same _ _ _ _), g7, fun i hi => absurd hi (Nat.not_lt_zero i)⟩, hb, ?_, ?_, ?_⟩⟩
    · rw [f_X6_channel, c1, bnd_some, if_neg (show ¬ nI c = (-1 : Int32) from fun g => absurd ((nI_m1 (by omega)).mp g) id), vb_def]
      refine b3.trans ?_
      rw [vb_def, f1, bnd_some, vb_def, vb_def]
    · rw [f_X7_channel, a1, bnd_some, a3, if_neg (show ¬ b2i true = 0 by decide), vb_def, a2]
      refine d3.trans ?_
      rw [vb_def, vb_def, vb_def, f2, bnd_some, f4.1.1]
    · simp only [rC, Bool.or_eq_true, Bool.and_eq_true, decide_eq_true_eq] at hk
      rw [up2_off _ (by omega), up2_off _ (by omega)]
    · rw [up2_same, up2_off _ (by omega), g8 8 (Or.inl rfl), n1, g5, g3, g1]
    · rw [up2_off _ (by omega), up2_off _ (by omega), g8 9 (Or.inr rfl), n2]
    · rw [g6, g4, g2, n3]
  · rw [if_neg q] at c1
    have q0 : rdW X l = false := by simpa using q
    rw [q0] at a3
    refine ⟨-103, σ, τ1, ?_, ?_, (h.rdc a4).e⟩
    · rw [f_X6_channel, c1]; rfl
    · rw [f_X7_channel, a1, bnd_some, a3, if_pos (show b2i false = 0 by decide)]
end
