/-! ===== what changes: put, turn, cut, set, clear, pack, best ===== -/
def RX (σ τ : xSt) (l : Nat) (X : Nat → Nat) : Prop := ∃ n C P T b, RR σ τ n C P T l X b
theorem up2_off (σ : xSt) {c c' k k' : Nat} {v : Int32} (h : ¬ (c' = c ∧ k' = k)) : (up2 σ c k v).1 c' k' = σ.1 c' k' := by rw [up2_at, if_neg h]
/-- an error, or not: what both take for one -/
def okR (r : Int32) : Prop := (-101 : Int32) < r ↔ ¬ r < (-1 : Int32)
def OP (o1 o2 : Option (Int32 × xSt)) (l : Nat) (X : Nat → Nat) : Prop := ∃ r σ' τ', o1 = some (r, σ') ∧ o2 = some (r, τ') ∧ RX σ' τ' l X ∧ okR r
theorem okR_1 : okR (-101) := by rw [okR]; decide
theorem okR_2 : okR (-102) := by rw [okR]; decide
theorem okR_3 : okR (-103) := by rw [okR]; decide
theorem okR_n {j : Nat} (h : j < 2147483648) : okR (nI j) := by
  have h1 : (-101 : Int32) < nI j := neg_lt (by decide) j h
  have h2 : ¬ nI j < (-1 : Int32) := fun e => absurd (Int32.lt_trans e (neg_lt (a := -1) (by decide) j h)) (Int32.lt_irrefl)
  exact ⟨fun _ => h2, fun _ => h1⟩
theorem okR_t {j : Nat} (h : j < 1000) : okR (tI j) := by
  cases j with
  | zero => rw [tI_0, okR]; decide
  | succ j => rw [tI_succ]; exact okR_n (by omega)
theorem neg_m1 {a : Int32} (h : a < 0) (h1 : a ≠ -1) : a < -1 := by
  rw [Int32.lt_iff_toInt_lt] at h ⊢
  have e0 : (0 : Int32).toInt = 0 := rfl
  have e1 : (-1 : Int32).toInt = -1 := rfl
  have e2 : a.toInt ≠ -1 := fun e => h1 (Int32.toInt_inj.mp (e.trans e1.symm))
  rw [e1]; rw [e0] at h; omega
/-- none, or a number below N; or neither -/
theorem c_tt (a : Int32) (N : Nat) (hN : N < 1000) : (∃ p, p ≤ N ∧ a = tI p) ∨ (a ≠ -1 ∧ (a < -1 ∨ (0 ≤ a ∧ nI N ≤ a))) := by
  rcases c_lt a N (by omega) with ⟨j, h1, h2⟩ | h
  · exact Or.inl ⟨j + 1, by omega, by rw [tI_succ]; exact h2⟩
  · by_cases q : a = -1
    · exact Or.inl ⟨0, by omega, by rw [tI_0]; exact q⟩
    · rcases h with h | h
      · exact Or.inr ⟨q, Or.inl (neg_m1 h q)⟩
      · exact Or.inr ⟨q, Or.inr ⟨Int32.le_trans (xy_le (a := 0) (Nat.zero_le N) (by omega)) h, h⟩⟩
theorem wt_t {p N : Nat} (h : p ≤ N) (hN : N < 800) (h0 : 0 < N) : (decide ((-1 : Int32) ≤ tI p) && decide (tI p ≤ nI (N - 1))) = true := by
  have h1 : (-1 : Int32) ≤ tI p := by
    have : tI 0 ≤ tI p := by rw [tI_leS (by omega) (by omega)]; omega
    rw [tI_0] at this; exact this
  have h2 : tI p ≤ nI (N - 1) := by rw [tI_len (by omega) (by omega)]; omega
  rw [decide_eq_true h1, decide_eq_true h2]; rfl
theorem wt_f {a : Int32} {N : Nat} (hN : N < 800) (h0 : 0 < N) (h : a < -1 ∨ (0 ≤ a ∧ nI N ≤ a)) : (decide ((-1 : Int32) ≤ a) && decide (a ≤ nI (N - 1))) = false := by
  rcases h with h | ⟨_, h⟩
  · rw [decide_eq_false (Int32.not_le.mpr h)]; rfl
  · have h2 : nI (N - 1) < nI N := xy_lt (by omega) (by omega)
    have : ¬ a ≤ nI (N - 1) := fun e => absurd (Int32.lt_of_lt_of_le h2 (Int32.le_trans h e)) Int32.lt_irrefl
    rw [decide_eq_false this, Bool.and_false]
section
variable {σ σ' τ τ' : xSt} {n C l b : Nat} {P T X : Nat → Nat}
theorem CP.set (h : CP σ n P) {k p : Nat} (hp : p ≤ 6) : CP (up2 σ 4 k (tI p)) n (stT P k p) := by
  refine ⟨(up2_cell σ k 1 (tI p) (by decide)).trans h.1, h.2.1, fun i hi => ?_⟩
  by_cases q : i = k
  · subst q
    rw [up2_same, stT_at]; exact ⟨rfl, hp⟩
  · rw [up2_place σ 4 4 (tI p) q, stT_ne q]; exact h.2.2 i hi
theorem MP.set (h : MP τ n P) {k p : Nat} (hp : p ≤ 6) : MP (up2 τ 1 k (tI p)) n (stT P k p) := by
  refine ⟨(up2_cell τ k 0 (tI p) (by decide)).trans h.1, h.2.1, fun i hi => ?_⟩
  by_cases q : i = k
  · subst q
    rw [up2_same, stT_at]; exact ⟨rfl, hp⟩
  · rw [up2_place τ 1 1 (tI p) q, stT_ne q]; exact h.2.2 i hi
theorem RT.pin (h : RT σ τ l X) {k k' : Nat} {v v' : Int32} : RT (up2 σ 4 k v) (up2 τ 1 k' v') l X := h.ext (fun c i hc => up2_cell σ k i v (by omega)) (fun c i hc => up2_cell τ k' i v' (by omega))
theorem RN.pin (h : RN σ τ b) {k k' : Nat} {v v' : Int32} : RN (up2 σ 4 k v) (up2 τ 1 k' v') b := h.ext (fun i _ => up2_cell σ k i v (by decide)) (fun i _ => up2_cell τ k' i v' (by decide))
theorem R_lay (hC : CP σ n P) (hM : MP τ n P) (hc : C < 64) (hs : σ.1 0 7 = nI C) (ht : τ.1 0 2 = nI C) (h8 : RT σ τ l X) (h9 : RN σ τ b) : ∃ σ' τ', f_X6_derive σ = some ((), σ') ∧ f_X7_layNew τ = some ((), τ') ∧ RR σ' τ' n C P (fun _ => 0) l X b := by
  obtain ⟨σ', a1, a2, a3, a4, a5, a6⟩ := e6_derive hC hc hs
  obtain ⟨τ', b1, b2, b3, b4, b5, b6, b7⟩ := e7_layNew hM hc ht
  have hl := sgs_len (C := C) hC.2.1 (fun k hk => (hC.2.2 k hk).2)
  refine ⟨σ', τ', a1, b1, ⟨⟨(a6.1 3 1 rfl).trans hC.1, hC.2.1, fun k hk => ⟨(a6.1 4 k rfl).trans (hC.2.2 k hk).1, (hC.2.2 k hk).2⟩⟩, hc, (a6.1 0 7 rfl).trans hs, a2, a3, a4, ⟨fun s h => ⟨(a5 s h).trans tI_0.symm, Nat.zero_le _⟩, fun _ _ _ => rfl⟩⟩, ⟨⟨(b7.1 0 0 rfl).trans hM.1, hM.2.1, fun k hk => ⟨(b7.1 1 k rfl).trans (hM.2.2 k hk).1, (hM.2.2 k hk).2⟩⟩, (b7.1 0 2 rfl).trans ht, b2, b3, b4, b5, fun s h => ⟨(b6 s (by omega)).trans tI_0.symm, Nat.zero_le _⟩⟩, h8.ext (fun c k h => a6.1 c k ?_) (fun c k h => b7.1 c k ?_), h9.ext (fun k h => a6.1 0 k ?_) (fun k h => b7.1 0 k ?_)⟩
  · rcases h with h | h <;> subst h <;> rfl
  · rcases h with h | ⟨h, h2⟩
    · subst h; rfl
    · subst h h2; rfl
  · rcases h with h | h <;> subst h <;> rfl
  · rcases h with h | h <;> subst h <;> rfl
theorem e0_change {j s : Nat} {v : Int32} (h : 2 * j + s < 16) : f_X0_change (nI j) (nI s) v σ = some ((), up2 σ 4 (2 * j + s) v) := by
  have ei : (2 : Int32) * nI j + nI s = nI (2 * j + s) := by rw [show (2 : Int32) = nI 2 from rfl, mulI, nI_add]
  rw [f_X0_change, ei, gi_nI h (by omega), vb_def, nI_clS (by omega)]
theorem o_put (h : RR σ τ n C P T l X b) (a c d : Int32) : OP (f_X6_put a c d σ) (f_X7_put a c d τ) l X := by
  have hR := h
  obtain ⟨h6, h7, h8, h9⟩ := h
  have hC := h6.1
  have hM := h7.1
  have hn := hC.2.1
  rcases c_lt a n (by omega) with ⟨j, h1, h2⟩ | h1
  · subst h2
    obtain ⟨q1, q2⟩ := in_t (show n < 1000 by omega) h1
    have e6 := e6_isColumn hC (nI j)
    rw [q1] at e6
    have e7 := e7_isColumn hM (nI j)
    rw [q2] at e7
    rcases c_lt c 2 (by omega) with ⟨s, h3, h4⟩ | h3
    · subst h4
      have w1 := w_t (show s ≤ 1 by omega) (show (1 : Nat) < 2147483648 by omega)
      have s6 := e6_isSide (σ := σ) (nI s)
      rw [w1] at s6
      have s7 := e7_within (nI s) 0 1 τ
      rw [show (decide ((0 : Int32) ≤ nI s) && decide (nI s ≤ 1)) = true from w1] at s7
      have ei : (2 : Int32) * nI j + nI s = nI (2 * j + s) := by rw [show (2 : Int32) = nI 2 from rfl, mulI, nI_add]
      rcases c_tt d 6 (by omega) with ⟨p, h5, h6'⟩ | ⟨h5, h6'⟩
      · subst h6'
        have w7 := e7_within (tI p) (-1) 5 τ
        rw [show (decide ((-1 : Int32) ≤ tI p) && decide (tI p ≤ 5)) = true from wt_t (N := 6) h5 (by omega) (by omega)] at w7
        obtain ⟨σ', τ', a1, b1, hR'⟩ := R_lay (σ := up2 σ 4 (2 * j + s) (tI p)) (τ := up2 τ 1 (2 * j + s) (tI p)) (hC.set h5) (hM.set h5) h6.2.1 ((up2_cell σ _ 7 _ (by decide)).trans h6.2.2.1) ((up2_cell τ _ 2 _ (by decide)).trans h7.2.1) h8.pin h9.pin
        refine ⟨tI (P (2 * j + s)), σ', τ', ?_, ?_, ⟨_, _, _, _, _, hR'⟩, okR_t (by have := (hC.2.2 (2 * j + s) (by omega)).2; omega)⟩
        · have main : bnd (f_X0_netOf (nI j) (nI s) σ) (fun r26 s27 => bnd (f_X0_change (nI j) (nI s) (tI p) s27) (fun r28 s29 => bnd (f_X6_derive s29) (fun r30 s31 => some (r26, s31)))) = some (tI (P (2 * j + s)), σ') := by
            rw [e0_netOf hC h1 h3, bnd_some, e0_change (by omega), bnd_some, a1, bnd_some]
          rw [f_X6_put, e6, bnd_some, if_neg (show ¬ b2i true = 0 by decide), s6, bnd_some]
          simp only [jn_def]
          rw [if_neg (show ¬ b2i true = 0 by decide)]
          by_cases q : tI p = -1
          · rw [if_pos q]; exact main
          · rw [if_neg q]
            cases p with
            | zero => exact absurd tI_0 q
            | succ p =>
              have n6 := e6_isNet (σ := σ) (tI (p + 1))
              rw [tI_succ, w_t (show p ≤ 5 by omega) (by omega)] at n6
              rw [tI_succ] at main ⊢
              rw [n6, bnd_some, if_neg (show ¬ b2i true = 0 by decide)]
              exact main
        · rw [f_X7_put, e7, bnd_some, if_neg (show ¬ b2i true = 0 by decide), s7, bnd_some]
          simp only [jn_def]
          rw [if_neg (show ¬ b2i true = 0 by decide), w7, bnd_some, if_neg (show ¬ b2i true = 0 by decide), ei, gi_nI (by omega) (by omega), vb_def, gi_nI (by omega) (by omega), vb_def, nI_clS (by omega), b1, bnd_some, (hM.2.2 (2 * j + s) (by omega)).1]
      · have w7 := e7_within d (-1) 5 τ
        rw [show (decide ((-1 : Int32) ≤ d) && decide (d ≤ 5)) = false from wt_f (N := 6) (by omega) (by omega) h6'] at w7
        refine ⟨-102, σ, τ, ?_, ?_, ⟨_, _, _, _, _, hR⟩, okR_2⟩
        · have n6 := e6_isNet (σ := σ) d
          have : (decide ((0 : Int32) ≤ d) && decide (d ≤ nI 5)) = false := by
            refine w_f (hi := 5) (by omega) ?_
            rcases h6' with h | h
            · exact Or.inl (Int32.lt_trans h (by decide))
            · exact Or.inr h.2
          rw [this] at n6
          rw [f_X6_put, e6, bnd_some, if_neg (show ¬ b2i true = 0 by decide), s6, bnd_some]
          simp only [jn_def]
          rw [if_neg (show ¬ b2i true = 0 by decide), if_neg h5, n6]
          rfl
        · rw [f_X7_put, e7, bnd_some, if_neg (show ¬ b2i true = 0 by decide), s7, bnd_some]
          simp only [jn_def]
          rw [if_neg (show ¬ b2i true = 0 by decide), w7]
          rfl
    · refine ⟨-102, σ, τ, ?_, ?_, ⟨_, _, _, _, _, hR⟩, okR_2⟩
      · rw [f_X6_put, e6, bnd_some, if_neg (show ¬ b2i true = 0 by decide), e6_isSide, w_f (hi := 1) (by omega) h3, bnd_some]; rfl
      · rw [f_X7_put, e7, bnd_some, if_neg (show ¬ b2i true = 0 by decide), e7_within, show (decide ((0 : Int32) ≤ c) && decide (c ≤ 1)) = false from w_f (hi := 1) (by omega) h3]; rfl
  · obtain ⟨q1, q2⟩ := in_f (show n < 1000 by omega) h1
    refine ⟨-101, σ, τ, ?_, ?_, ⟨_, _, _, _, _, hR⟩, okR_1⟩
    · rw [f_X6_put, e6_isColumn hC, q1, bnd_some]; rfl
    · rw [f_X7_put, e7_isColumn hM, q2, bnd_some]; rfl
theorem o_turn (h : RR σ τ n C P T l X b) (a : Int32) : OP (f_X6_turn a σ) (f_X7_turn a τ) l X := by
  have hR := h
  obtain ⟨h6, h7, h8, h9⟩ := h
  have hC := h6.1
  have hM := h7.1
  have hn := hC.2.1
  rcases c_lt a n (by omega) with ⟨j, h1, h2⟩ | h1
  · subst h2
    obtain ⟨q1, q2⟩ := in_t (show n < 1000 by omega) h1
    have e6 := e6_isColumn hC (nI j)
    rw [q1] at e6
    have e7 := e7_isColumn hM (nI j)
    rw [q2] at e7
    have t6 : f_X0_netOf (nI j) 0 σ = some (tI (P (2 * j)), σ) := e0_netOf hC h1 (d := 0) (by omega)
    have b6 : f_X0_netOf (nI j) 1 σ = some (tI (P (2 * j + 1)), σ) := e0_netOf hC h1 (d := 1) (by omega)
    have p0 := (hC.2.2 (2 * j) (by omega)).2
    have p1 := (hC.2.2 (2 * j + 1) (by omega)).2
    have c6 : f_X0_change (nI j) 0 (tI (P (2 * j + 1))) σ = some ((), up2 σ 4 (2 * j) (tI (P (2 * j + 1)))) := e0_change (s := 0) (by omega)
    have d6 : f_X0_change (nI j) 1 (tI (P (2 * j))) (up2 σ 4 (2 * j) (tI (P (2 * j + 1)))) = some ((), up2 (up2 σ 4 (2 * j) (tI (P (2 * j + 1)))) 4 (2 * j + 1) (tI (P (2 * j)))) := e0_change (s := 1) (by omega)
    obtain ⟨σ', τ', a1, b1, hR'⟩ := R_lay (σ := up2 (up2 σ 4 (2 * j) (tI (P (2 * j + 1)))) 4 (2 * j + 1) (tI (P (2 * j)))) (τ := up2 (up2 τ 1 (2 * j) (tI (P (2 * j + 1)))) 1 (2 * j + 1) (tI (P (2 * j)))) ((hC.set p1).set p0) ((hM.set p1).set p0) h6.2.1 ((up2_cell _ _ 7 _ (by decide)).trans ((up2_cell σ _ 7 _ (by decide)).trans h6.2.2.1)) ((up2_cell _ _ 2 _ (by decide)).trans ((up2_cell τ _ 2 _ (by decide)).trans h7.2.1)) h8.pin.pin h9.pin.pin
    have et := e7_top hR'.2.1.1 h1
    rw [stT_ne (show 2 * j ≠ 2 * j + 1 by omega), stT_at] at et
    have m2 : (2 : Int32) * nI j = nI (2 * j) := mulI 2 j
    refine ⟨tI (P (2 * j + 1)), σ', τ', ?_, ?_, ⟨_, _, _, _, _, hR'⟩, okR_t (by omega)⟩
    · rw [f_X6_turn, e6, bnd_some, if_neg (show ¬ b2i true = 0 by decide), t6, bnd_some, b6, bnd_some, c6, bnd_some, d6, bnd_some, a1, bnd_some]
    · rw [f_X7_turn, e7, bnd_some, if_neg (show ¬ b2i true = 0 by decide), e7_top hM h1, bnd_some, e7_bottom hM h1, bnd_some, m2, xn_s, gi_nI (by omega) (by omega), vb_def, gi_nI (by omega) (by omega), vb_def, nI_clS (by omega), nI_clS (by omega), b1, bnd_some, et, bnd_some]
  · obtain ⟨q1, q2⟩ := in_f (show n < 1000 by omega) h1
    refine ⟨-101, σ, τ, ?_, ?_, ⟨_, _, _, _, _, hR⟩, okR_1⟩
    · rw [f_X6_turn, e6_isColumn hC, q1, bnd_some]; rfl
    · rw [f_X7_turn, e7_isColumn hM, q2, bnd_some]; rfl
theorem b2i_inj {x y : Bool} : (b2i x = b2i y) ↔ x = y := by cases x <;> cases y <;> decide
theorem o_cut (h : RR σ τ n C P T l X b) (a : Int32) (bb : Bool) : OP (f_X6_cut a (b2i bb) σ) (f_X7_cut a (b2i bb) τ) l X := by
  have hR := h
  obtain ⟨h6, h7, h8, h9⟩ := h
  have hC := h6.1
  have hM := h7.1
  have hn := hC.2.1
  have c6 := e6_hasChannel hC
  have c7 := e7_isThere hM
  by_cases q0 : 0 < n
  · rw [decide_eq_true q0] at c6 c7
    rcases c_lt a 6 (by omega) with ⟨w, h1, h2⟩ | h1
    · subst h2
      have hw := w_t (show w ≤ 5 by omega) (show (5 : Nat) < 2147483648 by omega)
      have n6 := e6_isNet (σ := σ) (nI w)
      rw [hw] at n6
      have n7 := e7_within (nI w) 0 5 τ
      rw [show (decide ((0 : Int32) ≤ nI w) && decide (nI w ≤ 5)) = true from hw] at n7
      have i6 := e6_isSplit h6.2.2.1 h6.2.1 h1
      have i7 := e7_isBit (m := C) (k := w) (by have := h6.2.1; omega) (by omega) τ
      have d6 : f_X6_cut (nI w) (b2i bb) σ = if b2i (C.testBit w) = b2i bb then some (-103, σ) else bnd (f_X6_derive (up2 σ 0 7 (nI C ^^^ ((1 : Int32) <<< (nI w &&& 31))))) (fun r18 s19 => some (s19.1 5 8, s19)) := by
        rw [f_X6_cut, c6, bnd_some]
        simp only [jn_def]
        rw [if_neg (show ¬ b2i true = 0 by decide), n6, bnd_some, if_neg (show ¬ b2i true = 0 by decide), i6, bnd_some, vb_def, h6.2.2.1]
      have d7 : f_X7_cut (nI w) (b2i bb) τ = if b2i (C.testBit w) = b2i bb then some (-103, τ) else bnd (f_X7_layNew (up2 τ 0 2 (nI C ^^^ ((1 : Int32) <<< (nI w &&& 31))))) (fun r18 s19 => some (s19.1 0 4, s19)) := by
        rw [f_X7_cut, c7, bnd_some]
        simp only [jn_def]
        rw [if_neg (show ¬ b2i true = 0 by decide), n7, bnd_some, if_neg (show ¬ b2i true = 0 by decide), h7.2.1, i7, bnd_some, vb_def, h7.2.1]
      by_cases q : b2i (C.testBit w) = b2i bb
      · rw [if_pos q] at d6 d7
        exact ⟨-103, σ, τ, d6, d7, ⟨_, _, _, _, _, hR⟩, okR_3⟩
      · rw [if_neg q, sh1 (by omega), xorI] at d6 d7
        have hx : C ^^^ 2 ^ w < 64 := Nat.xor_lt_two_pow (n := 6) h6.2.1 (pow6 h1)
        obtain ⟨σ', τ', a1, b1, hR'⟩ := R_lay (σ := up2 σ 0 7 (nI (C ^^^ 2 ^ w))) (τ := up2 τ 0 2 (nI (C ^^^ 2 ^ w))) (n := n) (P := P) (C := C ^^^ 2 ^ w) (l := l) (X := X) (b := b) ⟨(up2_cell σ _ _ _ (by decide)).trans hC.1, hC.2.1, fun k hk => ⟨(up2_cell σ _ _ _ (by decide)).trans (hC.2.2 k hk).1, (hC.2.2 k hk).2⟩⟩ ⟨(up2_place τ _ _ _ (by decide)).trans hM.1, hM.2.1, fun k hk => ⟨(up2_cell τ _ _ _ (by decide)).trans (hM.2.2 k hk).1, (hM.2.2 k hk).2⟩⟩ hx (up2_same _ _ _ _) (up2_same _ _ _ _) (h8.ext (fun c i hc => up2_cell σ _ i _ (by omega)) (fun c i hc => up2_off τ (by omega))) (h9.ext (fun i hi => up2_place σ _ _ _ (by omega)) (fun i hi => up2_place τ _ _ _ (by omega)))
        refine ⟨nI (sgs P n (C ^^^ 2 ^ w) 6).length, σ', τ', ?_, ?_, ⟨_, _, _, _, _, hR'⟩, okR_n (by have := hR'.1.len; omega)⟩
        · rw [d6, a1, bnd_some, hR'.1.cs.1]
        · rw [d7, b1, bnd_some, hR'.2.1.ms.1]
    · refine ⟨-101, σ, τ, ?_, ?_, ⟨_, _, _, _, _, hR⟩, okR_1⟩
      · rw [f_X6_cut, c6, bnd_some]
        simp only [jn_def]
        rw [if_neg (show ¬ b2i true = 0 by decide), e6_isNet, w_f (hi := 5) (by omega) h1, bnd_some]; rfl
      · rw [f_X7_cut, c7, bnd_some]
        simp only [jn_def]
        rw [if_neg (show ¬ b2i true = 0 by decide), e7_within, show (decide ((0 : Int32) ≤ a) && decide (a ≤ 5)) = false from w_f (hi := 5) (by omega) h1]; rfl
  · rw [decide_eq_false q0] at c6 c7
    refine ⟨-101, σ, τ, ?_, ?_, ⟨_, _, _, _, _, hR⟩, okR_1⟩
    · rw [f_X6_cut, c6]; rfl
    · rw [f_X7_cut, c7]; rfl
theorem RC.trk {T' : Nat → Nat} (h : RC σ n C P T) (he : Fr (sR 29) σ σ') (ht : CTr σ' (sgs P n C 6).length T') : RC σ' n C P T' := by
  obtain ⟨h1, h2, h3, h4, h5, h6, _⟩ := h
  refine ⟨⟨(he.1 3 1 rfl).trans h1.1, h1.2.1, fun k hk => ⟨(he.1 4 k rfl).trans (h1.2.2 k hk).1, (h1.2.2 k hk).2⟩⟩, h2, (he.1 0 7 rfl).trans h3, h4.fr (fun c k hk => he.1 c k ?_), ⟨fun q => (he.1 23 1 rfl).trans (h5.1 q), fun a l q => ⟨(he.1 23 1 rfl).trans (h5.2 a l q).1, fun k hk => (he.1 24 k rfl).trans ((h5.2 a l q).2 k hk)⟩⟩, ⟨(he.1 25 3 rfl).trans h6.1, (he.1 25 2 rfl).trans h6.2.1, fun c hc hz => (he.1 27 _ rfl).trans (h6.2.2 c hc hz)⟩, ht⟩
  simp only [sC, Bool.and_eq_true, decide_eq_true_eq] at hk
  simp only [sR, decide_eq_false_iff_not]
  omega
theorem RM.trk {T' : Nat → Nat} (h : RM τ n C P T) (he : Fr (sR 5) τ τ') (ht : MT τ' (sgs P n C 6).length T') : RM τ' n C P T' := by
  obtain ⟨h1, h2, h3, h4, h5, h6, _⟩ := h
  exact ⟨⟨(he.1 0 0 rfl).trans h1.1, h1.2.1, fun k hk => ⟨(he.1 1 k rfl).trans (h1.2.2 k hk).1, (h1.2.2 k hk).2⟩⟩, (he.1 0 2 rfl).trans h2, ⟨(he.1 0 4 rfl).trans h3.1, fun s hs => ⟨(he.1 2 s rfl).trans (h3.2 s hs).1, (he.1 3 s rfl).trans (h3.2 s hs).2.1, (he.1 4 s rfl).trans (h3.2 s hs).2.2⟩⟩, fun s hs => ⟨(he.1 6 s rfl).trans (h4 s hs).1, (h4 s hs).2⟩, fun s hs => ⟨(he.1 7 s rfl).trans (h5 s hs).1, (h5 s hs).2⟩, ⟨fun q => (he.1 0 11 rfl).trans (h6.1 q), fun a l q => ⟨(he.1 0 11 rfl).trans (h6.2 a l q).1, fun k hk => (he.1 8 k rfl).trans ((h6.2 a l q).2 k hk)⟩⟩, ht⟩
theorem RT.trk (h : RT σ τ l X) (he : Fr (sR 29) σ σ') (hf : Fr (sR 5) τ τ') : RT σ' τ' l X := h.ext (fun c k hk => he.1 c k (by rcases hk with h | h <;> subst h <;> rfl)) (fun c k hk => hf.1 c k (by
  rcases hk with h | ⟨h, _⟩ <;> subst h <;> rfl))
theorem RN.trk (h : RN σ τ b) (he : Fr (sR 29) σ σ') (hf : Fr (sR 5) τ τ') : RN σ' τ' b := h.ext (fun k _ => he.1 0 k rfl) (fun k _ => hf.1 0 k rfl)
theorem RR.trk {T' : Nat → Nat} (h : RR σ τ n C P T l X b) (he : Fr (sR 29) σ σ') (ht : CTr σ' (sgs P n C 6).length T') (hf : Fr (sR 5) τ τ') (hu : MT τ' (sgs P n C 6).length T') : RR σ' τ' n C P T' l X b := ⟨h.1.trk he ht, h.2.1.trk hf hu, h.2.2.1.trk he hf, h.2.2.2.trk he hf⟩
theorem o_set (h : RR σ τ n C P T l X b) (a c : Int32) : OP (f_X6_set a c σ) (f_X7_set a c τ) l X := by
  have hR := h
  obtain ⟨h6, h7, h8, h9⟩ := h
  have hl := h6.len
  have hT := h6.2.2.2.2.2.2
  rcases c_lt a (sgs P n C 6).length (by omega) with ⟨s, h1, h2⟩ | h1
  · subst h2
    obtain ⟨q1, q2⟩ := in_t (show (sgs P n C 6).length < 1000 by omega) h1
    have e6 := e6_isSegment h6.cs.1 (nI s)
    rw [q1] at e6
    have e7 := e7_isSegment h7.ms.1 (nI s)
    rw [q2] at e7
    rcases c_tt c 14 (by omega) with ⟨v, h5, h6'⟩ | ⟨h5, h6'⟩
    · subst h6'
      have w7 := e7_within (tI v) (-1) 13 τ
      rw [show (decide ((-1 : Int32) ≤ tI v) && decide (tI v ≤ 13)) = true from wt_t (N := 14) h5 (by omega) (by omega)] at w7
      have hR' : RR (up2 σ 29 s (tI v)) (up2 τ 5 s (tI v)) n C P (stT T s v) l X b := hR.trk (Fr.up (by rfl)) (hT.set h1 h5) (Fr.up (by rfl)) (h7.mt.set h5)
      refine ⟨tI (T s), _, _, ?_, ?_, ⟨_, _, _, _, _, hR'⟩, okR_t (by have := (h7.mt s h1).2; omega)⟩
      · have g1 : ¬ tI v < (-1 : Int32) := by
          have : ¬ tI v < tI 0 := by rw [tI_ltS (by omega) (by omega)]; omega
          rw [tI_0] at this; exact this
        have g2 : tI v < (14 : Int32) := by
          have : tI v < nI 14 := by rw [tI_ltn (by omega) (by omega)]; omega
          exact this
        rw [f_X6_set, e6, bnd_some, if_neg (show ¬ b2i true = 0 by decide)]
        simp only [jn_def]
        rw [if_neg g1, if_pos g2, gi_nI (by omega) (by omega), vb_def, gi_nI (by omega) (by omega), vb_def, nI_clS (by omega), (hT.1 s (by omega)).1]
      · rw [f_X7_set, e7, bnd_some, if_neg (show ¬ b2i true = 0 by decide), w7, bnd_some, if_neg (show ¬ b2i true = 0 by decide), gi_nI (by omega) (by omega), vb_def, gi_nI (by omega) (by omega), vb_def, nI_clS (by omega), (h7.mt s h1).1]
    · have w7 := e7_within c (-1) 13 τ
      rw [show (decide ((-1 : Int32) ≤ c) && decide (c ≤ 13)) = false from wt_f (N := 14) (by omega) (by omega) h6'] at w7
      refine ⟨-102, σ, τ, ?_, ?_, ⟨_, _, _, _, _, hR⟩, okR_2⟩
      · rw [f_X6_set, e6, bnd_some, if_neg (show ¬ b2i true = 0 by decide)]
        simp only [jn_def]
        rcases h6' with h | ⟨h, h'⟩
        · rw [if_pos h]
        · have g1 : ¬ c < (-1 : Int32) := fun e => absurd (Int32.lt_trans e (show (-1 : Int32) < 0 by decide)) (Int32.not_lt.mpr h)
          rw [if_neg g1, if_neg (show ¬ c < (14 : Int32) from Int32.not_lt.mpr h')]
      · rw [f_X7_set, e7, bnd_some, if_neg (show ¬ b2i true = 0 by decide), w7]; rfl
  · obtain ⟨q1, q2⟩ := in_f (show (sgs P n C 6).length < 1000 by omega) h1
    refine ⟨-101, σ, τ, ?_, ?_, ⟨_, _, _, _, _, hR⟩, okR_1⟩
    · rw [f_X6_set, e6_isSegment h6.cs.1, q1, bnd_some]; rfl
    · rw [f_X7_set, e7_isSegment h7.ms.1, q2, bnd_some]; rfl
theorem CTr0 {N : Nat} (h : ∀ s, s < 14 → σ.1 29 s = -nI 1) : CTr σ N (fun _ => 0) := ⟨fun s hs => ⟨(h s hs).trans tI_0.symm, Nat.zero_le _⟩, fun _ _ _ => rfl⟩
theorem o_clear (h : RR σ τ n C P T l X b) : OP (f_X6_clear σ) (f_X7_clear τ) l X := by
  have hR := h
  obtain ⟨h6, h7, h8, h9⟩ := h
  have hl := h6.len
  have hT := h6.2.2.2.2.2.2
  have c6 := e6_hasChannel h6.1
  have c7 := e7_isThere h7.1
  by_cases q0 : 0 < n
  · rw [decide_eq_true q0] at c6 c7
    obtain ⟨σ', a1, a2, a3⟩ := e1_takeAllAway (σ := σ)
    obtain ⟨τ', b1, b2, b3⟩ := e7_clearNow h7.ms.1 hl h7.mt
    have pl := e1_placed hT hl
    rw [cnt14 hT hl] at pl
    refine ⟨nI (cnt (fun s => !decide (T s = 0)) (sgs P n C 6).length), σ', τ', ?_, ?_, ⟨_, _, _, _, _, hR.trk a3 (CTr0 a2) b3 (MT0 hl b2)⟩, okR_n (by have := cnt_le (fun s => !decide (T s = 0)) (sgs P n C 6).length; omega)⟩
    · rw [f_X6_clear, c6, bnd_some, if_neg (show ¬ b2i true = 0 by decide), pl, bnd_some, a1, bnd_some]
    · rw [f_X7_clear, c7, bnd_some]
      simp only [jn_def]
      rw [if_neg (show ¬ b2i true = 0 by decide), b1, bnd_some]
  · rw [decide_eq_false q0] at c6 c7
    refine ⟨-103, σ, τ, ?_, ?_, ⟨_, _, _, _, _, hR⟩, okR_3⟩
    · rw [f_X6_clear, c6]; rfl
    · rw [f_X7_clear, c7]; rfl
theorem e6_cyc (h6 : RC σ n C P T) : f_X3_hasCycle 5 σ = some (b2i (cyB (bel P n (sgs P n C 6)) (sgs P n C 6).length), σ) := e3_hasCycle h6.2.2.2.1
theorem o_pack (h : RR σ τ n C P T l X b) : OP (f_X6_pack σ) (f_X7_pack τ) l X := by
  have hR := h
  obtain ⟨h6, h7, h8, h9⟩ := h
  have hl := h6.len
  have c6 := e6_hasChannel h6.1
  have c7 := e7_isThere h7.1
  have cy := e6_cyc h6
  obtain ⟨lr, f, hlr, r1, r2, _, r3⟩ := R_ring h6 h7
  by_cases q0 : 0 < n
  · rw [decide_eq_true q0] at c6 c7
    by_cases q : cyc (bel P n (sgs P n C 6)) (sgs P n C 6).length
    · rw [cyB_t belB q] at cy
      have r4 := r3.mpr q
      refine ⟨-103, σ, τ, ?_, ?_, ⟨_, _, _, _, _, hR⟩, okR_3⟩
      · rw [f_X6_pack, c6, bnd_some]
        simp only [jn_def]
        rw [if_neg (show ¬ b2i true = 0 by decide), cy, bnd_some, if_neg (show ¬ b2i true = 0 by decide)]
      · rw [f_X7_pack, c7, bnd_some]
        simp only [jn_def]
        rw [if_neg (show ¬ b2i true = 0 by decide), r2, if_neg (show ¬ nI lr ≤ (0 : Int32) from xn_le (b := 0) r4 (by omega))]
    · rw [cyB_f belB q] at cy
      have r4 : lr = 0 := Nat.eq_zero_of_not_pos (fun e => q (r3.mp e))
      obtain ⟨σ', a1, a2, a3⟩ := e1_fillFromLeft h6.cs h6.cb
      obtain ⟨τ1, b1, b2, b3⟩ := e7_clearNow h7.ms.1 hl h7.mt
      obtain ⟨τ', d1, d2, d3⟩ := e7_packRows (h7.ms.f5 b3) (h7.mb.f5 b3) (MT0 hl b2) (fun s25 => bnd (f_X7_depth s25) (fun r26 s27 => some (r26, s27)))
      have hR' := hR.trk a3 a2 (b3.tr d2) d1
      have dp := e1_depth a2
      rw [mxN14 a2 hl] at dp
      refine ⟨nI (mxN (pkd (gN (sgs P n C 6)) (gF (sgs P n C 6)) (gL (sgs P n C 6)) (bel P n (sgs P n C 6)) (sgs P n C 6).length 14) (sgs P n C 6).length), σ', τ', ?_, ?_, ⟨_, _, _, _, _, hR'⟩, okR_n ?_⟩
      · rw [f_X6_pack, c6, bnd_some]
        simp only [jn_def]
        rw [if_neg (show ¬ b2i true = 0 by decide), cy, bnd_some, if_pos (show b2i false = 0 by decide), a1, bnd_some, dp, bnd_some]
      · rw [f_X7_pack, c7, bnd_some]
        simp only [jn_def]
        rw [if_neg (show ¬ b2i true = 0 by decide), r2, r4, if_pos (show nI 0 ≤ (0 : Int32) by decide), b1, bnd_some]
        rw [show (0 : Int32) = nI 0 from rfl, d3, e7_depth hR'.2.1.ms.1 hl d1, bnd_some]
      · have := mxN_le (f := pkd (gN (sgs P n C 6)) (gF (sgs P n C 6)) (gL (sgs P n C 6)) (bel P n (sgs P n C 6)) (sgs P n C 6).length 14) (b := 14) (N := (sgs P n C 6).length) (fun i _ => pkd_le 14 (by omega) i)
        omega
  · rw [decide_eq_false q0] at c6 c7
    refine ⟨-103, σ, τ, ?_, ?_, ⟨_, _, _, _, _, hR⟩, okR_3⟩
    · rw [f_X6_pack, c6]; rfl
    · rw [f_X7_pack, c7]; rfl
theorem o_best (h : RR σ τ n C P T l X b) : OP (f_X6_best σ) (f_X7_best τ) l X := by
  have hR := h
  obtain ⟨h6, h7, h8, h9⟩ := h
  have hl := h6.len
  have c6 := e6_hasChannel h6.1
  have c7 := e7_isThere h7.1
  have cy := e6_cyc h6
  obtain ⟨lr, f, hlr, r1, r2, _, r3⟩ := R_ring h6 h7
  obtain ⟨hb, hb1, hb2, hb3⟩ := h9
  by_cases q0 : 0 < n
  · rw [decide_eq_true q0] at c6 c7
    by_cases q : cyc (bel P n (sgs P n C 6)) (sgs P n C 6).length
    · rw [cyB_t belB q] at cy
      have r4 := r3.mpr q
      refine ⟨-103, σ, τ, ?_, ?_, ⟨_, _, _, _, _, hR⟩, okR_3⟩
      · rw [f_X6_best, c6, bnd_some]
        simp only [jn_def]
        rw [if_neg (show ¬ b2i true = 0 by decide), cy, bnd_some, if_neg (show ¬ b2i true = 0 by decide)]
      · rw [f_X7_best, c7, bnd_some]
        simp only [jn_def]
        rw [if_neg (show ¬ b2i true = 0 by decide), r2, if_pos (show (0 : Int32) < nI lr from xy_lt (a := 0) r4 (by omega))]
    · rw [cyB_f belB q] at cy
      have r4 : lr = 0 := Nat.eq_zero_of_not_pos (fun e => q (r3.mp e))
      have d6 : f_X6_best σ = (if 8 < nI (sgs P n C 6).length then some (-103, σ) else (if nI b < 20 then (bnd (f_X1_fillBest (if (σ.1 5 9) < (σ.1 25 3) then (σ.1 25 3) else (σ.1 5 9)) σ) (fun r31 s32 => vb (up2 s32 0 9 ((s32.1 0 9) + 1)) (fun s33 => bnd (f_X1_depth s33) (fun r34 s35 => some (r34, s35))))) else some (-103, σ))) := by
        rw [f_X6_best, c6, bnd_some]
        simp only [jn_def]
        rw [if_neg (show ¬ b2i true = 0 by decide), cy, bnd_some, if_pos (show b2i false = 0 by decide), h6.cs.1, hb2]
      have d7 : f_X7_best τ = (if 8 < nI (sgs P n C 6).length then some (-103, τ) else (if nI b = 20 then some (-103, τ) else f_X7_best_47 (fun e14 s15 => some (e14, s15)) FU 0 (up2 τ 0 13 (nI b + 1)))) := by
        rw [f_X7_best, c7, bnd_some]
        simp only [jn_def, vb_def]
        rw [if_neg (show ¬ b2i true = 0 by decide), r2, r4, if_neg (show ¬ (0 : Int32) < nI 0 by decide), h7.ms.1, hb3]
      by_cases q8 : 8 < (sgs P n C 6).length
      · rw [if_pos (show (8 : Int32) < nI (sgs P n C 6).length from xy_lt (a := 8) q8 (by omega))] at d6 d7
        exact ⟨-103, σ, τ, d6, d7, ⟨_, _, _, _, _, hR⟩, okR_3⟩
      · rw [if_neg (show ¬ (8 : Int32) < nI (sgs P n C 6).length from xn_lt (a := 8) (by omega) (by omega))] at d6 d7
        by_cases q20 : b = 20
        · rw [q20, if_neg (show ¬ nI 20 < (20 : Int32) by decide)] at d6
          rw [q20, if_pos (show nI 20 = (20 : Int32) from rfl)] at d7
          exact ⟨-103, σ, τ, d6, d7, ⟨_, _, _, _, _, hR⟩, okR_3⟩
        · rw [if_pos (show nI b < (20 : Int32) from xy_lt (b := 20) (by omega) (by omega))] at d6
          rw [if_neg (show ¬ nI b = (20 : Int32) from fun e => q20 ((nI_eq (by omega) (by omega)).mp e))] at d7
          obtain ⟨cw1, cw2, cw3⟩ := h6.2.2.2.1.2.2.2.1 q
          have de := h6.2.2.2.2.2.1.1
          have hge := bsD_ge (ne := gN (sgs P n C 6)) (fi := gF (sgs P n C 6)) (la := gL (sgs P n C 6)) (n := n) belS q
          have hbl := bsD_le (ne := gN (sgs P n C 6)) (fi := gF (sgs P n C 6)) (la := gL (sgs P n C 6)) (B := bel P n (sgs P n C 6)) (N := (sgs P n C 6).length)
          obtain ⟨ml, m1, m2, m3⟩ : ∃ ml, (if (σ.1 5 9) < (σ.1 25 3) then (σ.1 25 3) else (σ.1 5 9)) = nI ml ∧ rnd (prd (bel P n (sgs P n C 6)) (sgs P n C 6).length) (sgs P n C 6).length ≤ ml ∧ ml ≤ bsD (gN (sgs P n C 6)) (gF (sgs P n C 6)) (gL (sgs P n C 6)) (bel P n (sgs P n C 6)) (sgs P n C 6).length := by
            rw [cw1, de]
            by_cases g : rnd (prd (bel P n (sgs P n C 6)) (sgs P n C 6).length) (sgs P n C 6).length < mxN (fun c => pc (xs (gN (sgs P n C 6)) (gF (sgs P n C 6)) (gL (sgs P n C 6)) (sgs P n C 6).length c) 16) n
            · exact ⟨_, if_pos (xy_lt g (by omega)), by omega, hge.2⟩
            · exact ⟨_, if_neg (xn_lt (by omega) (by omega)), Nat.le_refl _, hge.1⟩
          obtain ⟨σ', T', a1, a2, a3, a4⟩ := e1_fillBest h6.cs h6.cb (fun s hs => ⟨cw2 s hs, cw3 s hs⟩) belS q (by omega) m2 m3
          have h7' : RM (up2 τ 0 13 (nI b + 1)) n C P T := h7.ext (fun c k hk => up2_off τ (fun e => by
            obtain ⟨e1, e2⟩ := e
            subst e1 e2
            exact absurd hk (by decide)))
          obtain ⟨τ', T'', b1, b2, b3, b4⟩ := e7_best47 h7'.ms h7'.mb h7'.mt (by omega) q
          have e : T'' = T' := Option.some.inj (b1.symm.trans a1)
          subst e
          have dp := bsD_dep q a1
          have h6' : RC σ' n C P T'' := h6.trk a4 a3
          have f1 : ∀ c k, ¬ (c = 0 ∧ k = 9) → (up2 σ' 0 9 (σ'.1 0 9 + 1)).1 c k = σ'.1 c k := fun c k hk => up2_off σ' hk
          have h6'' : RC (up2 σ' 0 9 (σ'.1 0 9 + 1)) n C P T'' := h6'.ext (fun c k hk => f1 c k (fun e => by
            obtain ⟨e1, e2⟩ := e
            subst e1 e2
            exact absurd hk (by decide)))
          have f2 : ∀ c k, ¬ (c = 0 ∧ k = 13) → (up2 τ 0 13 (nI b + 1)).1 c k = τ.1 c k := fun c k hk => up2_off τ hk
          have t6 := e1_depth h6''.2.2.2.2.2.2
          rw [mxN14 h6''.2.2.2.2.2.2 hl, dp] at t6
          refine ⟨nI (bsD (gN (sgs P n C 6)) (gF (sgs P n C 6)) (gL (sgs P n C 6)) (bel P n (sgs P n C 6)) (sgs P n C 6).length), up2 σ' 0 9 (σ'.1 0 9 + 1), τ', ?_, ?_, ⟨n, C, P, T'', b + 1, h6'', h7'.trk b4 b3, ?_, ?_⟩, okR_n (by omega)⟩
          · rw [d6, m1, a2, bnd_some, vb_def, t6, bnd_some]
          · rw [d7]; exact b2
          · exact h8.ext (fun c k hk => (f1 c k (by omega)).trans (a4.1 c k (by rcases hk with h | h <;> subst h <;> rfl))) (fun c k hk => (b4.1 c k (by rcases hk with h | ⟨h, _⟩ <;> subst h <;> rfl)).trans (f2 c k (by omega)))
          · refine ⟨by omega, ?_, ?_, ?_⟩
            · rw [f1 0 8 (by omega), a4.1 0 8 rfl, b4.1 0 3 rfl, f2 0 3 (by omega)]; exact hb1
            · rw [up2_same, a4.1 0 9 rfl, hb2]; exact xn_s b
            · rw [b4.1 0 13 rfl, up2_same]; exact xn_s b
  · rw [decide_eq_false q0] at c6 c7
    refine ⟨-103, σ, τ, ?_, ?_, ⟨_, _, _, _, _, hR⟩, okR_3⟩
    · rw [f_X6_best, c6]; rfl
    · rw [f_X7_best, c7]; rfl
end
