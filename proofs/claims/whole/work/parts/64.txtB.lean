/-! ===== the commands ===== -/
def tx (s : Nat) : List Nat := [[112, 97, 99, 107], [98, 101, 115, 116], [99, 108, 101, 97, 114], [99, 117, 116, 32, 1], [119, 104, 111, 108, 101, 32, 1], [116, 117, 114, 110, 32, 2]].getD s []
def ta (s i : Nat) : Nat := (tx s).getD i 0
def cw (w : Nat) : Nat := if w = 1 then 63 else if w = 2 then 35 else w
def asB (w x : Nat) : Bool := if w = 1 then (decide (97 ≤ x) && decide (x ≤ 102)) else if w = 2 then (decide (48 ≤ x) && decide (x ≤ 57)) else (!decide (w = 0) && decide (w = x))
theorem tx_len : ∀ s, s < 6 → (tx s).length ≤ 7 ∧ 4 ≤ (tx s).length := by decide +kernel
theorem ta_lt : ∀ s, s < 6 → ∀ i, i < 21 → ta s i < 127 := by decide +kernel
theorem ta_in : ∀ s, s < 6 → ∀ i, i < 7 → i < (tx s).length → ta s i ≠ 0 ∧ ta s i ≠ 63 ∧ ta s i ≠ 35 := by decide +kernel
theorem ta_out {s i : Nat} (h : (tx s).length ≤ i) : ta s i = 0 := by
  rw [ta, List.getD_eq_getElem?_getD, List.getElem?_eq_none h]; rfl
section
variable {σ σ' τ τ' : xSt} {n C l b : Nat} {P T X : Nat → Nat}
theorem sa_0 {i : Nat} (hi : i ≤ 20) : f_X7_sayingAt (nI 0) (nI i) τ = some (nI (ta 0 i), τ) := by
  rcases (show i = 0 ∨ i = 1 ∨ i = 2 ∨ i = 3 ∨ i = 4 ∨ i = 5 ∨ i = 6 ∨ i = 7 ∨ i = 8 ∨ i = 9 ∨ i = 10 ∨ i = 11 ∨ i = 12 ∨ i = 13 ∨ i = 14 ∨ i = 15 ∨ i = 16 ∨ i = 17 ∨ i = 18 ∨ i = 19 ∨ i = 20 by omega) with h | h | h | h | h | h | h | h | h | h | h | h | h | h | h | h | h | h | h | h | h <;> subst h <;> rfl
theorem sa_1 {i : Nat} (hi : i ≤ 20) : f_X7_sayingAt (nI 1) (nI i) τ = some (nI (ta 1 i), τ) := by
  rcases (show i = 0 ∨ i = 1 ∨ i = 2 ∨ i = 3 ∨ i = 4 ∨ i = 5 ∨ i = 6 ∨ i = 7 ∨ i = 8 ∨ i = 9 ∨ i = 10 ∨ i = 11 ∨ i = 12 ∨ i = 13 ∨ i = 14 ∨ i = 15 ∨ i = 16 ∨ i = 17 ∨ i = 18 ∨ i = 19 ∨ i = 20 by omega) with h | h | h | h | h | h | h | h | h | h | h | h | h | h | h | h | h | h | h | h | h <;> subst h <;> rfl
theorem sa_2 {i : Nat} (hi : i ≤ 20) : f_X7_sayingAt (nI 2) (nI i) τ = some (nI (ta 2 i), τ) := by
  rcases (show i = 0 ∨ i = 1 ∨ i = 2 ∨ i = 3 ∨ i = 4 ∨ i = 5 ∨ i = 6 ∨ i = 7 ∨ i = 8 ∨ i = 9 ∨ i = 10 ∨ i = 11 ∨ i = 12 ∨ i = 13 ∨ i = 14 ∨ i = 15 ∨ i = 16 ∨ i = 17 ∨ i = 18 ∨ i = 19 ∨ i = 20 by omega) with h | h | h | h | h | h | h | h | h | h | h | h | h | h | h | h | h | h | h | h | h <;> subst h <;> rfl
theorem sa_3 {i : Nat} (hi : i ≤ 20) : f_X7_sayingAt (nI 3) (nI i) τ = some (nI (ta 3 i), τ) := by
  rcases (show i = 0 ∨ i = 1 ∨ i = 2 ∨ i = 3 ∨ i = 4 ∨ i = 5 ∨ i = 6 ∨ i = 7 ∨ i = 8 ∨ i = 9 ∨ i = 10 ∨ i = 11 ∨ i = 12 ∨ i = 13 ∨ i = 14 ∨ i = 15 ∨ i = 16 ∨ i = 17 ∨ i = 18 ∨ i = 19 ∨ i = 20 by omega) with h | h | h | h | h | h | h | h | h | h | h | h | h | h | h | h | h | h | h | h | h <;> subst h <;> rfl
theorem sa_4 {i : Nat} (hi : i ≤ 20) : f_X7_sayingAt (nI 4) (nI i) τ = some (nI (ta 4 i), τ) := by
  rcases (show i = 0 ∨ i = 1 ∨ i = 2 ∨ i = 3 ∨ i = 4 ∨ i = 5 ∨ i = 6 ∨ i = 7 ∨ i = 8 ∨ i = 9 ∨ i = 10 ∨ i = 11 ∨ i = 12 ∨ i = 13 ∨ i = 14 ∨ i = 15 ∨ i = 16 ∨ i = 17 ∨ i = 18 ∨ i = 19 ∨ i = 20 by omega) with h | h | h | h | h | h | h | h | h | h | h | h | h | h | h | h | h | h | h | h | h <;> subst h <;> rfl
theorem sa_5 {i : Nat} (hi : i ≤ 20) : f_X7_sayingAt (nI 5) (nI i) τ = some (nI (ta 5 i), τ) := by
  rcases (show i = 0 ∨ i = 1 ∨ i = 2 ∨ i = 3 ∨ i = 4 ∨ i = 5 ∨ i = 6 ∨ i = 7 ∨ i = 8 ∨ i = 9 ∨ i = 10 ∨ i = 11 ∨ i = 12 ∨ i = 13 ∨ i = 14 ∨ i = 15 ∨ i = 16 ∨ i = 17 ∨ i = 18 ∨ i = 19 ∨ i = 20 by omega) with h | h | h | h | h | h | h | h | h | h | h | h | h | h | h | h | h | h | h | h | h <;> subst h <;> rfl
theorem e7_sayingAt {s i : Nat} (hs : s < 6) (hi : i ≤ 20) : f_X7_sayingAt (nI s) (nI i) τ = some (nI (ta s i), τ) := by
  rcases (show s = 0 ∨ s = 1 ∨ s = 2 ∨ s = 3 ∨ s = 4 ∨ s = 5 by omega) with h | h | h | h | h | h <;> subst h
  · exact sa_0 hi
  · exact sa_1 hi
  · exact sa_2 hi
  · exact sa_3 hi
  · exact sa_4 hi
  · exact sa_5 hi
theorem ca_0 {i : Nat} (hi : i < 4) : f_str_charAt (100 + 0) (nI i) σ = some (nI (cw (ta 0 i)), σ) := by
  rcases (show i = 0 ∨ i = 1 ∨ i = 2 ∨ i = 3 by omega) with h | h | h | h <;> subst h <;> rfl
theorem ca_1 {i : Nat} (hi : i < 4) : f_str_charAt (100 + 1) (nI i) σ = some (nI (cw (ta 1 i)), σ) := by
  rcases (show i = 0 ∨ i = 1 ∨ i = 2 ∨ i = 3 by omega) with h | h | h | h <;> subst h <;> rfl
theorem ca_2 {i : Nat} (hi : i < 5) : f_str_charAt (100 + 2) (nI i) σ = some (nI (cw (ta 2 i)), σ) := by
  rcases (show i = 0 ∨ i = 1 ∨ i = 2 ∨ i = 3 ∨ i = 4 by omega) with h | h | h | h | h <;> subst h <;> rfl
theorem ca_3 {i : Nat} (hi : i < 5) : f_str_charAt (100 + 3) (nI i) σ = some (nI (cw (ta 3 i)), σ) := by
  rcases (show i = 0 ∨ i = 1 ∨ i = 2 ∨ i = 3 ∨ i = 4 by omega) with h | h | h | h | h <;> subst h <;> rfl
theorem ca_4 {i : Nat} (hi : i < 7) : f_str_charAt (100 + 4) (nI i) σ = some (nI (cw (ta 4 i)), σ) := by
  rcases (show i = 0 ∨ i = 1 ∨ i = 2 ∨ i = 3 ∨ i = 4 ∨ i = 5 ∨ i = 6 by omega) with h | h | h | h | h | h | h <;> subst h <;> rfl
theorem ca_5 {i : Nat} (hi : i < 6) : f_str_charAt (100 + 5) (nI i) σ = some (nI (cw (ta 5 i)), σ) := by
  rcases (show i = 0 ∨ i = 1 ∨ i = 2 ∨ i = 3 ∨ i = 4 ∨ i = 5 by omega) with h | h | h | h | h | h <;> subst h <;> rfl
theorem e4_charAt {s i : Nat} (hs : s < 6) (hi : i < (tx s).length) : f_str_charAt (100 + s) (nI i) σ = some (nI (cw (ta s i)), σ) := by
  rcases (show s = 0 ∨ s = 1 ∨ s = 2 ∨ s = 3 ∨ s = 4 ∨ s = 5 by omega) with h | h | h | h | h | h <;> subst h
  · exact ca_0 hi
  · exact ca_1 hi
  · exact ca_2 hi
  · exact ca_3 hi
  · exact ca_4 hi
  · exact ca_5 hi
theorem e4_length {s : Nat} (hs : s < 6) : f_str_length (100 + s) σ = some (nI (tx s).length, σ) := by
  rcases (show s = 0 ∨ s = 1 ∨ s = 2 ∨ s = 3 ∨ s = 4 ∨ s = 5 by omega) with h | h | h | h | h | h <;> subst h <;> rfl
theorem e4_pattern {s : Nat} (hs : s < 6) : f_X4_pattern (nI s) σ = some (100 + s, σ) := by
  rcases (show s = 0 ∨ s = 1 ∨ s = 2 ∨ s = 3 ∨ s = 4 ∨ s = 5 by omega) with h | h | h | h | h | h <;> subst h <;> rfl
theorem e7_isAs {w x : Nat} (hw : w < 127) (hx : x < 127) : f_X7_isAs (nI w) (nI x) τ = some (b2i (asB w x), τ) := by
  rw [f_X7_isAs, asB]
  simp only [jn_def]
  by_cases q1 : w = 1
  · rw [if_pos (show nI w = (1 : Int32) by rw [q1]; rfl), if_pos q1, e7_within, bnd_some, gb_b2i, show (decide ((97 : Int32) ≤ nI x) && decide (nI x ≤ 102)) = (decide (97 ≤ x) && decide (x ≤ 102)) from dw (a := 97) (b := 102) (by omega) (by omega) (by omega)]
  · rw [if_neg (show ¬ nI w = (1 : Int32) from nlit (m := 1) (by omega) (by omega) q1), if_neg q1]
    by_cases q2 : w = 2
    · rw [if_pos (show nI w = (2 : Int32) by rw [q2]; rfl), if_pos q2, e7_within, bnd_some, gb_b2i, show (decide ((48 : Int32) ≤ nI x) && decide (nI x ≤ 57)) = (decide (48 ≤ x) && decide (x ≤ 57)) from dw (a := 48) (b := 57) (by omega) (by omega) (by omega)]
    · rw [if_neg (show ¬ nI w = (2 : Int32) from nlit (m := 2) (by omega) (by omega) q2), if_neg q2]
      by_cases q0 : w = 0
      · rw [if_pos (show nI w = (0 : Int32) by rw [q0]; rfl), decide_eq_true q0]; rfl
      · rw [if_neg (show ¬ nI w = (0 : Int32) from nlit (m := 0) (by omega) (by omega) q0), decide_eq_false q0]
        by_cases q : w = x
        · rw [if_pos (by rw [q]), decide_eq_true q]; rfl
        · rw [if_neg (nlit (by omega) (by omega) q), decide_eq_false q]; rfl
theorem e4_agrees {w x : Nat} (h0 : w ≠ 0) (h1 : w ≠ 63) (h2 : w ≠ 35) (hw : w < 127) (hx : x < 127) : f_X4_agrees (nI x) (nI (cw w)) σ = some (b2i (asB w x), σ) := by
  rw [f_X4_agrees, asB, cw]
  simp only [jn_def]
  by_cases q1 : w = 1
  · rw [if_pos q1, if_pos q1, if_pos (show nI 63 = (63 : Int32) from rfl), e4_isNetSign (by omega), bnd_some, gb_b2i]
  · rw [if_neg q1, if_neg q1]
    by_cases q2 : w = 2
    · rw [if_pos q2, if_pos q2, if_neg (show ¬ nI 35 = (63 : Int32) by decide), if_pos (show nI 35 = (35 : Int32) from rfl)]
      by_cases g1 : x < 48
      · rw [if_pos (show nI x < (48 : Int32) from xy_lt (b := 48) g1 (by omega)), decide_eq_false (by omega)]; rfl
      · rw [if_neg (show ¬ nI x < (48 : Int32) from xn_lt (b := 48) (by omega) (by omega)), decide_eq_true (by omega)]
        by_cases g2 : 57 < x
        · rw [if_pos (show (57 : Int32) < nI x from xy_lt (a := 57) g2 (by omega)), decide_eq_false (by omega)]; rfl
        · rw [if_neg (show ¬ (57 : Int32) < nI x from xn_lt (a := 57) (by omega) (by omega)), decide_eq_true (by omega)]; rfl
    · rw [if_neg q2, if_neg q2, if_neg (show ¬ nI w = (63 : Int32) from nlit (m := 63) (by omega) (by omega) h1), if_neg (show ¬ nI w = (35 : Int32) from nlit (m := 35) (by omega) (by omega) h2), decide_eq_false h0]
      by_cases q : w = x
      · rw [if_pos (by rw [q]), decide_eq_true q]; rfl
      · rw [if_neg (nlit (by omega) (by omega) (fun e => q e.symm)), decide_eq_false q]; rfl
def lk (X : Nat → Nat) (l s : Nat) : Nat := fst (fun i => !asB (ta s i) (X i)) l
theorem lk_le {s : Nat} : lk X l s ≤ l := fst_le _ l
theorem e7_likeSaying (h : MTx τ l X) {s : Nat} (hs : s < 6) : f_X7_likeSaying (nI s) τ = some (nI (lk X l s), τ) := by
  obtain ⟨t1, t2, t3⟩ := h
  rw [f_X7_likeSaying]
  have hle := lk_le (X := X) (l := l) (s := s)
  refine lpE (fun n (v : Int32) => f_X7_likeSaying_2 (nI s) _ n v τ) (fun i => nI i) l _ (lk X l s) hle (by omega) (fun n i hi => ?_) (fun n => ?_)
  · have q1 : asB (ta s i) (X i) = true := by
      have := fst_no _ _ _ hi
      rwa [Bool.not_eq_false'] at this
    obtain ⟨x1, x2⟩ := t3 i (by omega)
    show f_X7_likeSaying_2 (nI s) _ (n + 1) (nI i) τ = f_X7_likeSaying_2 (nI s) _ n (nI (i + 1)) τ
    rw [f_X7_likeSaying_2, t1, if_neg (xn_le (by omega) (by omega)), e7_sayingAt hs (by omega), bnd_some, gi_nI (by omega) (by omega), nI_clS (by omega), x1, e7_isAs (ta_lt s hs i (by omega)) (by omega), bnd_some, q1, if_neg (show ¬ b2i true = 0 by decide), xn_s]
  · have q1 := fst_yes (fun i => !asB (ta s i) (X i)) l
    rw [show fst (fun i => !asB (ta s i) (X i)) l = lk X l s from rfl] at q1
    generalize lk X l s = e at *
    show f_X7_likeSaying_2 (nI s) _ (n + 1) (nI e) τ = _
    rw [f_X7_likeSaying_2, t1]
    by_cases c : l ≤ e
    · rw [if_pos (xy_le c (by omega))]
    · obtain ⟨x1, x2⟩ := t3 e (by omega)
      have q2 := q1 (by omega)
      rw [Bool.not_eq_true'] at q2
      rw [if_neg (xn_le (by omega) (by omega)), e7_sayingAt hs (by omega), bnd_some, gi_nI (by omega) (by omega), nI_clS (by omega), x1, e7_isAs (ta_lt s hs e (by omega)) (by omega), bnd_some, q2, if_pos (show b2i false = 0 from rfl)]
theorem e7_readSaying (h : MTx τ l X) : f_X7_readSaying τ = some (nI (mxN (lk X l) 6), τ) := by
  have hl := h.2.1
  rw [f_X7_readSaying]
  refine lpF (fun n (a : Int32 × Int32) => f_X7_readSaying_4 _ n a.1 a.2 τ) (fun i => (nI (mxN (lk X l) i), nI i)) 6 _ (by omega) (fun n i hi => ?_) (fun n => ?_)
  · have hm := mxN_le (f := lk X l) (b := l) (N := i) (fun i _ => lk_le)
    have hk := lk_le (X := X) (l := l) (s := i)
    show f_X7_readSaying_4 _ (n + 1) (nI (mxN (lk X l) i)) (nI i) τ = f_X7_readSaying_4 _ n (nI (mxN (lk X l) (i + 1))) (nI (i + 1)) τ
    rw [f_X7_readSaying_4, if_neg (show ¬ (6 : Int32) ≤ nI i from xn_le (a := 6) (by omega) (by omega)), e7_likeSaying h hi, bnd_some, xn_s]
    simp only [jn_def]
    have e : mxN (lk X l) (i + 1) = if lk X l i ≤ mxN (lk X l) i then mxN (lk X l) i else lk X l i := rfl
    by_cases q : lk X l i ≤ mxN (lk X l) i
    · rw [if_pos (xy_le q (by omega)), e, if_pos q]
    · rw [if_neg (xn_le (by omega) (by omega)), e, if_neg q]
  · show f_X7_readSaying_4 _ (n + 1) (nI (mxN (lk X l) 6)) (nI 6) τ = _
    rw [f_X7_readSaying_4, if_pos (show (6 : Int32) ≤ nI 6 by decide)]
def cmB (X : Nat → Nat) (l s : Nat) : Bool := decide (lk X l s = l) && decide (ta s l = 0)
theorem e7_sayingNow (h : MTx τ l X) : f_X7_sayingNow τ = some (if fst (cmB X l) 6 < 6 then nI (fst (cmB X l) 6) else -1, τ) := by
  have hl := h.2.1
  rw [f_X7_sayingNow]
  have step : ∀ (k : xSt → Option (Int32 × xSt)) n i, i < 6 → f_X7_sayingNow_2 k (n + 1) (nI i) τ = if cmB X l i then some (nI i, τ) else f_X7_sayingNow_2 k n (nI (i + 1)) τ := fun k n i hi => by
    have hk := lk_le (X := X) (l := l) (s := i)
    rw [f_X7_sayingNow_2, if_neg (show ¬ (6 : Int32) ≤ nI i from xn_le (a := 6) (by omega) (by omega)), e7_likeSaying h hi, bnd_some, h.1, xn_s, cmB]
    simp only [jn_def]
    by_cases q : lk X l i = l
    · have tl := ta_lt i hi l (by omega)
      rw [if_pos (by rw [q]), e7_sayingAt hi (by omega), bnd_some, decide_eq_true q, Bool.true_and]
      by_cases q2 : ta i l = 0
      · rw [q2, if_pos (show nI 0 = (0 : Int32) from rfl), decide_eq_true rfl, if_pos rfl]
      · rw [if_neg (show ¬ nI (ta i l) = (0 : Int32) from nlit (m := 0) (by omega) (by omega) q2), decide_eq_false q2, if_neg (by decide)]
    · rw [if_neg (nlit (by omega) (by omega) q), decide_eq_false q, Bool.false_and, if_neg (by decide)]
  refine lpE (fun n (v : Int32) => f_X7_sayingNow_2 _ n v τ) (fun i => nI i) 6 _ (fst (cmB X l) 6) (fst_le _ 6) (by omega) (fun n i hi => ?_) (fun n => ?_)
  · have := fst_no _ _ _ hi
    have h6 := fst_le (cmB X l) 6
    show f_X7_sayingNow_2 _ (n + 1) (nI i) τ = _
    rw [step _ n i (by omega), this, if_neg (by decide)]
  · have h6 := fst_le (cmB X l) 6
    have hy := fst_yes (cmB X l) 6
    generalize fst (cmB X l) 6 = e at *
    show f_X7_sayingNow_2 _ (n + 1) (nI e) τ = _
    by_cases q : e < 6
    · rw [step _ n e q, hy q, if_pos rfl, if_pos q]
    · have : e = 6 := by omega
      rw [if_neg q, this, f_X7_sayingNow_2, if_pos (show (6 : Int32) ≤ nI 6 by decide)]
/-! the class -/
theorem lk_min {s : Nat} : fst (fun i => !asB (ta s i) (X i)) (if (tx s).length < l then (tx s).length else l) = lk X l s := by
  by_cases q : (tx s).length < l
  · rw [if_pos q]
    have h1 := fst_le (fun i => !asB (ta s i) (X i)) (tx s).length
    have h2 := fst_no (fun i => !asB (ta s i) (X i)) (tx s).length
    have h3 := fst_yes (fun i => !asB (ta s i) (X i)) (tx s).length
    refine (fst_eq (by omega) h2 (fun _ => ?_)).symm
    by_cases g : fst (fun i => !asB (ta s i) (X i)) (tx s).length < (tx s).length
    · exact h3 g
    · have e : fst (fun i => !asB (ta s i) (X i)) (tx s).length = (tx s).length := by omega
      rw [e, ta_out (Nat.le_refl _)]; rfl
  · rw [if_neg q]; rfl
theorem e4_agreement (h : CTx σ l X) {s : Nat} (hs : s < 6) : f_X4_agreement (100 + s) σ = some (nI (lk X l s), σ) := by
  obtain ⟨t1, t2, t3⟩ := h
  have tl := tx_len s hs
  rw [f_X4_agreement, e4_length hs, bnd_some, t1, vb_def, ← lk_min]
  have ec : (if nI (tx s).length < nI l then nI (tx s).length else nI l) = nI (if (tx s).length < l then (tx s).length else l) := by
    by_cases q : (tx s).length < l
    · rw [if_pos (xy_lt q (by omega)), if_pos q]
    · rw [if_neg (xn_lt (by omega) (by omega)), if_neg q]
  rw [ec]
  have hm1 : (if (tx s).length < l then (tx s).length else l) ≤ (tx s).length := by split <;> omega
  have hm2 : (if (tx s).length < l then (tx s).length else l) ≤ l := by split <;> omega
  generalize (if (tx s).length < l then (tx s).length else l) = m at *
  have hle := fst_le (fun i => !asB (ta s i) (X i)) m
  refine lpE (fun n (v : Int32) => f_X4_agreement_14 (100 + s) (nI m) _ n v σ) (fun i => nI i) m _ (fst (fun i => !asB (ta s i) (X i)) m) hle (by omega) (fun n i hi => ?_) (fun n => ?_)
  · have q1 : asB (ta s i) (X i) = true := by
      have := fst_no _ _ _ hi
      rwa [Bool.not_eq_false'] at this
    obtain ⟨x1, x2⟩ := t3 i (by omega)
    obtain ⟨y0, y1, y2⟩ := ta_in s hs i (by omega) (by omega)
    show f_X4_agreement_14 (100 + s) (nI m) _ (n + 1) (nI i) σ = f_X4_agreement_14 (100 + s) (nI m) _ n (nI (i + 1)) σ
    rw [f_X4_agreement_14, if_neg (xn_le (by omega) (by omega)), gi_nI (by omega) (by omega), e4_charAt hs (by omega), bnd_some, nI_clS (by omega), x1, e4_agrees y0 y1 y2 (ta_lt s hs i (by omega)) (by omega), bnd_some, q1, if_neg (show ¬ b2i true = 0 by decide), xn_s]
  · have q1 := fst_yes (fun i => !asB (ta s i) (X i)) m
    generalize fst (fun i => !asB (ta s i) (X i)) m = e at *
    show f_X4_agreement_14 (100 + s) (nI m) _ (n + 1) (nI e) σ = _
    rw [f_X4_agreement_14]
    by_cases c : m ≤ e
    · have : e = m := by omega
      rw [if_pos (xy_le c (by omega)), this]
    · obtain ⟨x1, x2⟩ := t3 e (by omega)
      obtain ⟨y0, y1, y2⟩ := ta_in s hs e (by omega) (by omega)
      have q2 := q1 (by omega)
      rw [Bool.not_eq_true'] at q2
      rw [if_neg (xn_le (by omega) (by omega)), gi_nI (by omega) (by omega), e4_charAt hs (by omega), bnd_some, nI_clS (by omega), x1, e4_agrees y0 y1 y2 (ta_lt s hs e (by omega)) (by omega), bnd_some, q2, if_pos (show b2i false = 0 from rfl)]
theorem e4_commandFault (h : CTx σ l X) : f_X4_commandFault σ = some (nI (mxN (lk X l) 6), σ) := by
  have hl := h.2.1
  rw [f_X4_commandFault]
  refine lpF (fun n (a : Int32 × Int32) => f_X4_commandFault_4 _ n a.1 a.2 σ) (fun i => (nI (mxN (lk X l) i), nI i)) 6 _ (by omega) (fun n i hi => ?_) (fun n => ?_)
  · have hm := mxN_le (f := lk X l) (b := l) (N := i) (fun i _ => lk_le)
    have hk := lk_le (X := X) (l := l) (s := i)
    show f_X4_commandFault_4 _ (n + 1) (nI (mxN (lk X l) i)) (nI i) σ = f_X4_commandFault_4 _ n (nI (mxN (lk X l) (i + 1))) (nI (i + 1)) σ
    rw [f_X4_commandFault_4, if_neg (show ¬ (6 : Int32) ≤ nI i from xn_le (a := 6) (by omega) (by omega)), e4_pattern hi, bnd_some, e4_agreement h hi, bnd_some, xn_s, vb_def]
    have e : mxN (lk X l) (i + 1) = if lk X l i ≤ mxN (lk X l) i then mxN (lk X l) i else lk X l i := rfl
    by_cases q : lk X l i ≤ mxN (lk X l) i
    · rw [if_neg (xn_lt q (by omega)), e, if_pos q]
    · rw [if_pos (xy_lt (by omega) (by omega)), e, if_neg q]
  · show f_X4_commandFault_4 _ (n + 1) (nI (mxN (lk X l) 6)) (nI 6) σ = _
    rw [f_X4_commandFault_4, if_pos (show (6 : Int32) ≤ nI 6 by decide)]
theorem lk_tx {s : Nat} (h : lk X l s = l) : l ≤ (tx s).length := by
  rcases Nat.lt_or_ge (tx s).length l with g | g
  · have := fst_no (fun i => !asB (ta s i) (X i)) l (tx s).length (by rw [show fst (fun i => !asB (ta s i) (X i)) l = lk X l s from rfl, h]; exact g)
    rw [ta_out (Nat.le_refl _)] at this
    exact absurd this (by simp [asB])
  · exact g
theorem cmB_len {s : Nat} (hs : s < 6) (hl : l ≤ 20) (h : cmB X l s = true) : l = (tx s).length := by
  rw [cmB, Bool.and_eq_true, decide_eq_true_eq, decide_eq_true_eq] at h
  have h1 := lk_tx h.1
  have tl := tx_len s hs
  rcases Nat.lt_or_ge l (tx s).length with g | g
  · exact absurd h.2 (ta_in s hs l (by omega) g).1
  · omega
theorem e4_command (h : CTx σ l X) : f_X4_command σ = some (if fst (cmB X l) 6 < 6 then nI (fst (cmB X l) 6) else -1, σ) := by
  have hl := h.2.1
  rw [f_X4_command]
  have step : ∀ (k : xSt → Option (Int32 × xSt)) n i, i < 6 → f_X4_command_2 k (n + 1) (nI i) σ = if cmB X l i then some (nI i, σ) else f_X4_command_2 k n (nI (i + 1)) σ := fun k n i hi => by
    have hk := lk_le (X := X) (l := l) (s := i)
    have tl := tx_len i hi
    rw [f_X4_command_2, if_neg (show ¬ (6 : Int32) ≤ nI i from xn_le (a := 6) (by omega) (by omega)), e4_pattern hi, bnd_some, e4_length hi, bnd_some, h.1, xn_s]
    simp only [jn_def]
    by_cases q : l = (tx i).length
    · rw [if_pos (by rw [← q]), e4_agreement h hi, bnd_some, h.1, cmB, ta_out (by omega), decide_eq_true rfl, Bool.and_true]
      by_cases q2 : lk X l i = l
      · rw [if_pos (by rw [q2]), decide_eq_true q2, if_pos rfl]
      · rw [if_neg (nlit (by omega) (by omega) q2), decide_eq_false q2, if_neg (by decide)]
    · rw [if_neg (nlit (by omega) (by omega) q)]
      have : cmB X l i = false := by
        cases g : cmB X l i
        · rfl
        · exact absurd (cmB_len hi hl g) q
      rw [this, if_neg (by decide)]
  refine lpE (fun n (v : Int32) => f_X4_command_2 _ n v σ) (fun i => nI i) 6 _ (fst (cmB X l) 6) (fst_le _ 6) (by omega) (fun n i hi => ?_) (fun n => ?_)
  · have := fst_no _ _ _ hi
    have h6 := fst_le (cmB X l) 6
    show f_X4_command_2 _ (n + 1) (nI i) σ = _
    rw [step _ n i (by omega), this, if_neg (by decide)]
  · have h6 := fst_le (cmB X l) 6
    have hy := fst_yes (cmB X l) 6
    generalize fst (cmB X l) 6 = e at *
    show f_X4_command_2 _ (n + 1) (nI e) σ = _
    by_cases q : e < 6
    · rw [step _ n e q, hy q, if_pos rfl, if_pos q]
    · have : e = 6 := by omega
      rw [if_neg q, this, f_X4_command_2, if_pos (show (6 : Int32) ≤ nI 6 by decide)]
theorem RR.rdc (h : RR σ τ n C P T l X b) (hf : Fr sRd τ τ') : RR σ τ' n C P T l X b := h.txt (fun _ _ _ => rfl) (fun c k hk => hf.1 c k (by
  simp only [sRd, Bool.and_eq_false_iff, Bool.or_eq_false_iff, decide_eq_false_iff_not]; omega)) (h.2.2.1.ext (fun _ _ _ => rfl) (fun c k hk => hf.1 c k (by
  simp only [sRd, Bool.and_eq_false_iff, Bool.or_eq_false_iff, decide_eq_false_iff_not]; omega)))
theorem o_fault (h : RR σ τ n C P T l X b) (a : Int32) : ∃ r σ' τ', f_X6_fault a σ = some (r, σ') ∧ f_X7_fault a τ = some (r, τ') ∧ RE σ' τ' := by
  rcases c_lt a 2 (by omega) with ⟨j, h1, h2⟩ | h1
  · subst h2
    have w := e7_within (nI j) 0 1 τ
    rw [show (decide ((0 : Int32) ≤ nI j) && decide (nI j ≤ 1)) = true from w_t (hi := 1) (by omega) (by omega)] at w
    rcases (show j = 0 ∨ j = 1 by omega) with q | q <;> subst q
    · obtain ⟨τ', b1, b2, b3, b4⟩ := e7_readChannel h.2.2.1.m
      refine ⟨nI (rdE X l), σ, τ', ?_, ?_, (h.rdc b4).e⟩
      · rw [f_X6_fault, if_pos (show nI 0 = (0 : Int32) from rfl), e4_channelFault h.2.2.1.c]; rfl
      · rw [f_X7_fault, w, bnd_some]
        simp only [jn_def]
        rw [if_neg (show ¬ b2i true = 0 by decide), if_pos (show nI 0 = (0 : Int32) from rfl), b1, bnd_some]
    · refine ⟨nI (mxN (lk X l) 6), σ, τ, ?_, ?_, h.e⟩
      · rw [f_X6_fault, if_neg (show ¬ nI 1 = (0 : Int32) by decide), if_pos (show nI 1 = (1 : Int32) from rfl), e4_commandFault h.2.2.1.c]; rfl
      · rw [f_X7_fault, w, bnd_some]
        simp only [jn_def]
        rw [if_neg (show ¬ b2i true = 0 by decide), if_neg (show ¬ nI 1 = (0 : Int32) by decide), e7_readSaying h.2.2.1.m, bnd_some]
  · refine ⟨-102, σ, τ, ?_, ?_, h.e⟩
    · rw [f_X6_fault, if_neg (show ¬ a = (0 : Int32) from n_lt (N := 2) (by omega) h1 (j := 0) (by omega)), if_neg (show ¬ a = (1 : Int32) from n_lt (N := 2) (by omega) h1 (j := 1) (by omega))]
    · rw [f_X7_fault, e7_within, show (decide ((0 : Int32) ≤ a) && decide (a ≤ 1)) = false from w_f (hi := 1) (by omega) h1]; rfl
/-! say -/
noncomputable def sayC (r : Int32) (s : xSt) : Option (Int32 × xSt) := bnd (f_X6_isError r s) (fun r28 s29 => if r28 = 0 then some (r, up2 s29 1 1 0) else some (r, s29))
def sayM (r : Int32) (s : xSt) : Option (Int32 × xSt) := if r < (-1) then some (r, s) else some (r, up2 s 0 14 0)
theorem sayE {o1 o2 : Option (Int32 × xSt)} (h : OP o1 o2 l X) : ∃ r σ' τ', bnd o1 sayC = some (r, σ') ∧ bnd o2 sayM = some (r, τ') ∧ RE σ' τ' := by
  obtain ⟨r, σ', τ', h1, h2, ⟨n, C, P, T, b, h3⟩, h4⟩ := h
  rw [h1, h2, bnd_some, bnd_some, sayC, sayM, f_X6_isError]
  simp only [jn_def]
  by_cases q : (-101 : Int32) < r
  · have q2 := h4.mp q
    refine ⟨r, up2 σ' 1 1 0, up2 τ' 0 14 0, ?_, ?_, (h3.txt (X' := X) (l' := 0) (fun c k hk => up2_off σ' (by omega)) (fun c k hk => up2_off τ' (by omega)) ⟨by omega, up2_same _ _ _ _, up2_same _ _ _ _, fun i hi => absurd hi (Nat.not_lt_zero i)⟩).e⟩
    · rw [if_pos q]; rfl
    · rw [if_neg q2]
  · have q2 : r < (-1 : Int32) := Classical.byContradiction (fun e => q (h4.mpr e))
    refine ⟨r, σ', τ', ?_, ?_, h3.e⟩
    · rw [if_neg q]; rfl
    · rw [if_pos q2]
theorem o_say (h : RR σ τ n C P T l X b) : ∃ r σ' τ', f_X6_say σ = some (r, σ') ∧ f_X7_say τ = some (r, τ') ∧ RE σ' τ' := by
  have c6 := e4_command h.2.2.1.c
  have c7 := e7_sayingNow h.2.2.1.m
  obtain ⟨t1, t2, t3, t4⟩ := h.2.2.1
  have hy := fst_yes (cmB X l) 6
  generalize fst (cmB X l) 6 = e at *
  by_cases q : e < 6
  · rw [if_pos q] at c6 c7
    have hl := cmB_len q t1 (hy q)
    have tl := tx_len e q
    have lc : f_X4_lastCode σ = some (nI (X (l - 1)), σ) := by
      rw [f_X4_lastCode]
      simp only [jn_def]
      rw [t2, if_neg (show ¬ nI l ≤ (0 : Int32) from xn_le (b := 0) (by omega) (by omega)), show nI l - 1 = nI (l - 1) from subI (b := 1) (by omega), gi_nI (by omega) (by omega), nI_clS (by omega), (t4 (l - 1) (by omega)).1]
    have d6 : f_X6_say σ = (if nI e = 0 then (bnd (f_X6_pack σ) sayC) else (if nI e = 1 then (bnd (f_X6_best σ) sayC) else (if nI e = 2 then (bnd (f_X6_clear σ) sayC) else (if nI e = 3 then (bnd (f_X6_cut (nI (X (l - 1)) - 97) 1 σ) sayC) else (if nI e = 4 then (bnd (f_X6_cut (nI (X (l - 1)) - 97) 0 σ) sayC) else (if nI e = 5 then (bnd (f_X6_turn (nI (X (l - 1)) - 48) σ) sayC) else (bnd (f_X6_turn (nI (X (l - 1)) - 48) σ) sayC))))))) := by
      rw [f_X6_say, c6, bnd_some, if_neg (show ¬ nI e = (-1 : Int32) from fun g => absurd ((nI_m1 (by omega)).mp g) id), lc, bnd_some]
      rfl
    have d7 : f_X7_say τ = bnd (f_X7_saidNow (nI e) τ) sayM := by
      rw [f_X7_say, c7, bnd_some, if_neg (show ¬ nI e = (-1 : Int32) from fun g => absurd ((nI_m1 (by omega)).mp g) id)]
      rfl
    have bb : ∀ o : Option (Int32 × xSt), bnd o (fun r s => some (r, s)) = o := fun o => by cases o <;> rfl
    rw [d6, d7, f_X7_saidNow]
    rcases (show e = 0 ∨ e = 1 ∨ e = 2 ∨ e = 3 ∨ e = 4 ∨ e = 5 by omega) with g | g | g | g | g | g <;> subst g
    · rw [if_pos (by decide), if_pos (by decide), bb]; exact sayE (o_pack h)
    · rw [if_neg (by decide), if_pos (by decide), if_neg (by decide), if_pos (by decide), bb]; exact sayE (o_best h)
    · rw [if_neg (by decide), if_neg (by decide), if_pos (by decide), if_neg (by decide), if_neg (by decide), if_pos (by decide), bb]; exact sayE (o_clear h)
    · have hl5 : l = 5 := hl
      subst hl5
      rw [if_neg (by decide), if_neg (by decide), if_neg (by decide), if_pos (by decide), if_neg (by decide), if_neg (by decide), if_neg (by decide), if_pos (by decide), bb, show (4 : Int32) = nI 4 from rfl, gi_nI (by omega) (by omega), nI_clS (by omega), (t4 4 (by omega)).2.1]
      exact sayE (o_cut h _ true)
    · have hl5 : l = 7 := hl
      subst hl5
      rw [if_neg (by decide), if_neg (by decide), if_neg (by decide), if_neg (by decide), if_pos (by decide), if_neg (by decide), if_neg (by decide), if_neg (by decide), if_neg (by decide), if_pos (by decide), bb, show (6 : Int32) = nI 6 from rfl, gi_nI (by omega) (by omega), nI_clS (by omega), (t4 6 (by omega)).2.1]
      exact sayE (o_cut h _ false)
    · have hl5 : l = 6 := hl
      subst hl5
      rw [if_neg (by decide), if_neg (by decide), if_neg (by decide), if_neg (by decide), if_neg (by decide), if_pos (by decide), if_neg (by decide), if_neg (by decide), if_neg (by decide), if_neg (by decide), if_neg (by decide), bb, show gi 5 20 = gi (α := Int32 × xSt) (nI 5) 20 from rfl, gi_nI (by omega) (by omega), show (5 : Int32).toNatClampNeg = 5 from rfl, (t4 5 (by omega)).2.1]
      exact sayE (o_turn h _)
  · rw [if_neg q] at c6 c7
    refine ⟨-103, σ, τ, ?_, ?_, h.e⟩
    · rw [f_X6_say, c6]; rfl
    · rw [f_X7_say, c7]; rfl
end
