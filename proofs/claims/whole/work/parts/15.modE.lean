section
variable {σ : xSt} {n N : Nat} {P T ne fi la B F : Nat → Nat}
/-- whether a column begins a zone; X: the crossing sets -/
def zoneB (X : Nat → Nat) (n c : Nat) : Bool := !decide (X c = 0) && alB (fun k => !(decide (X c &&& X k = X c) && !decide (X k = X c)) && !(decide (X k = X c) && decide (k < c))) n
theorem e7_isZone (hP : MP σ n P) (h : MS σ N ne fi la) {c : Nat} (hc : c < n) : f_X7_isZone (nI c) σ = some (b2i (zoneB (xs ne fi la N) n c), σ) := by
  have hn := hP.2.1
  have h0 := hP.1
  have hx : ∀ k, k < 100 → f_X7_netsIn (nI k) σ = some (nI (xs ne fi la N k), σ) := fun k hk => e7_netsIn h hk
  have hl : ∀ k, xs ne fi la N k < 64 := xs_lt h
  generalize xs ne fi la N = X at hx hl
  have xc := hl c
  have loop : ∀ b : Bool, f_X7_isZone_19 (nI c) (nI (X c)) (fun e44 s45 => gb e44 (some (e44, s45))) FU (b2i b) (nI 0) σ = some (b2i (b && alB (fun k => !(decide (X c &&& X k = X c) && !decide (X k = X c)) && !(decide (X k = X c) && decide (k < c))) n), σ) := by
    intro b
    obtain ⟨p, hp⟩ : ∃ p : Nat → Bool, (fun k => !(decide (X c &&& X k = X c) && !decide (X k = X c)) && !(decide (X k = X c) && decide (k < c))) = p := ⟨_, rfl⟩
    rw [hp]
    have e0 : b2i b = b2i (b && alB p 0) := by show b2i b = b2i (b && true); rw [Bool.and_true]
    rw [e0]
    refine lpF (fun m (a : Int32 × Int32) => f_X7_isZone_19 (nI c) (nI (X c)) _ m a.1 a.2 σ) (fun i => (b2i (b && alB p i), nI i)) n _ (by omega) (fun m i hi => ?_) (fun m => ?_)
    · have c0 : ¬ n ≤ i := by omega
      have xi := hl i
      have xa : X c &&& X i < 64 := Nat.lt_of_le_of_lt Nat.and_le_left xc
      simp (disch := omega) only [lit_nI, nI_leS, nI_ltS, nI_eqS, nI_clS, nI_add, mulI, tI_leS, tI_ltS, tI_eqS, tI_m1, nI_m1, tI_eqn, tI_eqn2, tI_ltn, tI_nle, tI_len, tI_nlt, gi_nI, gi_lit, gz_nI, bnd_some, jn_def, vb_def, if_true, if_false, b2i_0, b2i_1, b2i_t, b2i_f, gb_b2i, gb_n0, gb_n1, bitN, bit0N, sh1N, orI, andI, e7_within, ite_self, n10, n01, Bool.true_eq_false, Bool.false_eq_true, f_X7_isZone_19, h0, c0, hx i (by omega)]
      have e : alB p (i + 1) = (alB p i && p i) := rfl
      rw [e, ← hp]
      generalize alB _ i = bb
      rcases Classical.propComplete (X c &&& X i = X c) with q1 | q1 <;> rcases Classical.propComplete (X i = X c) with q2 | q2 <;> rcases Classical.propComplete (i < c) with q3 | q3 <;> cases b <;> cases bb <;> simp [q1, q2, q3, b2i_t, b2i_f, gb_n0, gb_n1, n10, n01, nI_eqS]
    · simp (disch := omega) only [lit_nI, nI_leS, nI_ltS, nI_eqS, nI_clS, nI_add, mulI, tI_leS, tI_ltS, tI_eqS, tI_m1, nI_m1, tI_eqn, tI_eqn2, tI_ltn, tI_nle, tI_len, tI_nlt, gi_nI, gi_lit, gz_nI, bnd_some, jn_def, vb_def, if_true, if_false, b2i_0, b2i_1, b2i_t, b2i_f, gb_b2i, gb_n0, gb_n1, bitN, bit0N, sh1N, orI, andI, e7_within, ite_self, n10, n01, Bool.true_eq_false, Bool.false_eq_true, f_X7_isZone_19, h0, Nat.le_refl]
  have l1 := loop true
  have l0 := loop false
  rw [b2i_t] at l1
  rw [b2i_f] at l0
  simp only [gb] at l0 l1
  simp (disch := omega) only [lit_nI, nI_leS, nI_ltS, nI_eqS, nI_clS, nI_add, mulI, tI_leS, tI_ltS, tI_eqS, tI_m1, nI_m1, tI_eqn, tI_eqn2, tI_ltn, tI_nle, tI_len, tI_nlt, gi_nI, gi_lit, gz_nI, bnd_some, jn_def, vb_def, if_true, if_false, b2i_0, b2i_1, b2i_t, b2i_f, gb_b2i, gb_n0, gb_n1, bitN, bit0N, sh1N, orI, andI, e7_within, ite_self, n10, n01, Bool.true_eq_false, Bool.false_eq_true, f_X7_isZone, hx c (by omega)]
  simp only [gb]
  rw [zoneB]
  by_cases q : X c = 0
  · simp only [q, if_true]
    rw [q] at l0
    rw [l0]
    simp
  · simp only [q, if_false]
    rw [l1]
    simp
theorem cnt_mono (p : Nat → Bool) {a b : Nat} (h : a ≤ b) : cnt p a ≤ cnt p b := by
  obtain ⟨d, rfl⟩ := Nat.exists_eq_add_of_le h
  clear h
  induction d with
  | zero => exact Nat.le_refl _
  | succ d ih =>
    refine Nat.le_trans ih ?_
    show _ ≤ cnt p (a + d) + _
    omega
theorem cnt_lt {p : Nat → Bool} {c b : Nat} (h : c < b) (hp : p c = true) : cnt p c < cnt p b := by
  have h1 := cnt_mono p (show c + 1 ≤ b by omega)
  have h2 : cnt p (c + 1) = cnt p c + 1 := by show cnt p c + (if p c then 1 else 0) = _; rw [if_pos hp]
  omega
theorem e7_zones_m1 (hP : MP σ n P) (h : MS σ N ne fi la) : f_X7_zones (-1) σ = some (nI (cnt (zoneB (xs ne fi la N) n) n), σ) := by
  have hn := hP.2.1
  have h0 := hP.1
  have hz : ∀ c, c < n → f_X7_isZone (nI c) σ = some (b2i (zoneB (xs ne fi la N) n c), σ) := fun c hc => e7_isZone hP h hc
  generalize zoneB (xs ne fi la N) n = z at hz
  rw [f_X7_zones]
  refine lpF (fun m (a : Int32 × Int32) => f_X7_zones_4 _ _ m a.1 a.2 σ) (fun i => (nI (cnt z i), nI i)) n _ (by omega) (fun m i hi => ?_) (fun m => ?_)
  · have c0 : ¬ n ≤ i := by omega
    have := cnt_le z i
    simp (disch := omega) only [lit_nI, nI_leS, nI_ltS, nI_eqS, nI_clS, nI_add, mulI, tI_leS, tI_ltS, tI_eqS, tI_m1, nI_m1, tI_eqn, tI_eqn2, tI_ltn, tI_nle, tI_len, tI_nlt, gi_nI, gi_lit, gz_nI, bnd_some, jn_def, vb_def, if_true, if_false, b2i_0, b2i_1, b2i_t, b2i_f, gb_b2i, gb_n0, gb_n1, bitN, bit0N, sh1N, orI, andI, e7_within, ite_self, n10, n01, Bool.true_eq_false, Bool.false_eq_true, f_X7_zones_4, h0, c0, hz i hi]
    have e : cnt z (i + 1) = cnt z i + (if z i then 1 else 0) := rfl
    rw [e]
    rcases Bool.eq_false_or_eq_true (z i) with b1 | b1 <;> simp [b1]
  · simp (disch := omega) only [lit_nI, nI_leS, nI_ltS, nI_eqS, nI_clS, nI_add, mulI, tI_leS, tI_ltS, tI_eqS, tI_m1, nI_m1, tI_eqn, tI_eqn2, tI_ltn, tI_nle, tI_len, tI_nlt, gi_nI, gi_lit, gz_nI, bnd_some, jn_def, vb_def, if_true, if_false, b2i_0, b2i_1, b2i_t, b2i_f, gb_b2i, gb_n0, gb_n1, bitN, bit0N, sh1N, orI, andI, e7_within, ite_self, n10, n01, Bool.true_eq_false, Bool.false_eq_true, f_X7_zones_4, h0, Nat.le_refl]
theorem e7_zones_no (hP : MP σ n P) (h : MS σ N ne fi la) {w : Nat} (hw : w < 2147483648) (hc : cnt (zoneB (xs ne fi la N) n) n ≤ w) : f_X7_zones (nI w) σ = some (-nI 1, σ) := by
  have hn := hP.2.1
  have h0 := hP.1
  have hz : ∀ c, c < n → f_X7_isZone (nI c) σ = some (b2i (zoneB (xs ne fi la N) n c), σ) := fun c hc => e7_isZone hP h hc
  generalize zoneB (xs ne fi la N) n = z at hz hc
  rw [f_X7_zones]
  refine lpF (fun m (a : Int32 × Int32) => f_X7_zones_4 _ _ m a.1 a.2 σ) (fun i => (nI (cnt z i), nI i)) n _ (by omega) (fun m i hi => ?_) (fun m => ?_)
  · have c0 : ¬ n ≤ i := by omega
    have := cnt_le z i
    simp (disch := omega) only [lit_nI, nI_leS, nI_ltS, nI_eqS, nI_clS, nI_add, mulI, tI_leS, tI_ltS, tI_eqS, tI_m1, nI_m1, tI_eqn, tI_eqn2, tI_ltn, tI_nle, tI_len, tI_nlt, gi_nI, gi_lit, gz_nI, bnd_some, jn_def, vb_def, if_true, if_false, b2i_0, b2i_1, b2i_t, b2i_f, gb_b2i, gb_n0, gb_n1, bitN, bit0N, sh1N, orI, andI, e7_within, ite_self, n10, n01, Bool.true_eq_false, Bool.false_eq_true, f_X7_zones_4, h0, c0, hz i hi]
    have e : cnt z (i + 1) = cnt z i + (if z i then 1 else 0) := rfl
    rw [e]
    rcases Bool.eq_false_or_eq_true (z i) with b1 | b1
    · have h3 := cnt_lt hi b1
      have h4 : ¬ cnt z i = w := by omega
      simp [b1, h4]
    · simp [b1]
  · simp (disch := omega) only [lit_nI, nI_leS, nI_ltS, nI_eqS, nI_clS, nI_add, mulI, tI_leS, tI_ltS, tI_eqS, tI_m1, nI_m1, tI_eqn, tI_eqn2, tI_ltn, tI_nle, tI_len, tI_nlt, gi_nI, gi_lit, gz_nI, bnd_some, jn_def, vb_def, if_true, if_false, b2i_0, b2i_1, b2i_t, b2i_f, gb_b2i, gb_n0, gb_n1, bitN, bit0N, sh1N, orI, andI, e7_within, ite_self, n10, n01, Bool.true_eq_false, Bool.false_eq_true, f_X7_zones_4, h0, Nat.le_refl]
theorem e7_zones_at (hP : MP σ n P) (h : MS σ N ne fi la) {c : Nat} (hc : c < n) (hzc : zoneB (xs ne fi la N) n c = true) : f_X7_zones (nI (cnt (zoneB (xs ne fi la N) n) c)) σ = some (nI (xs ne fi la N c), σ) := by
  have hn := hP.2.1
  have h0 := hP.1
  have hz : ∀ c, c < n → f_X7_isZone (nI c) σ = some (b2i (zoneB (xs ne fi la N) n c), σ) := fun c hc => e7_isZone hP h hc
  have hx := e7_netsIn h (show c < 100 by omega)
  change f_X7_netsIn (nI c) σ = some (nI (xs ne fi la N c), σ) at hx
  generalize zoneB (xs ne fi la N) n = z at hz hzc
  have hcl := cnt_le z c
  rw [f_X7_zones]
  refine lpE (fun m (a : Int32 × Int32) => f_X7_zones_4 _ _ m a.1 a.2 σ) (fun i => (nI (cnt z i), nI i)) n _ c (by omega) (by omega) (fun m i hi => ?_) (fun m => ?_)
  · have c0 : ¬ n ≤ i := by omega
    have := cnt_le z i
    simp (disch := omega) only [lit_nI, nI_leS, nI_ltS, nI_eqS, nI_clS, nI_add, mulI, tI_leS, tI_ltS, tI_eqS, tI_m1, nI_m1, tI_eqn, tI_eqn2, tI_ltn, tI_nle, tI_len, tI_nlt, gi_nI, gi_lit, gz_nI, bnd_some, jn_def, vb_def, if_true, if_false, b2i_0, b2i_1, b2i_t, b2i_f, gb_b2i, gb_n0, gb_n1, bitN, bit0N, sh1N, orI, andI, e7_within, ite_self, n10, n01, Bool.true_eq_false, Bool.false_eq_true, f_X7_zones_4, h0, c0, hz i (by omega)]
    have e : cnt z (i + 1) = cnt z i + (if z i then 1 else 0) := rfl
    rw [e]
    rcases Bool.eq_false_or_eq_true (z i) with b1 | b1
    · have h3 := cnt_lt hi b1
      have h4 : ¬ cnt z i = cnt z c := by omega
      simp [b1, h4]
    · simp [b1]
  · have c0 : ¬ n ≤ c := by omega
    simp (disch := omega) only [lit_nI, nI_leS, nI_ltS, nI_eqS, nI_clS, nI_add, mulI, tI_leS, tI_ltS, tI_eqS, tI_m1, nI_m1, tI_eqn, tI_eqn2, tI_ltn, tI_nle, tI_len, tI_nlt, gi_nI, gi_lit, gz_nI, bnd_some, jn_def, vb_def, if_true, if_false, b2i_0, b2i_1, b2i_t, b2i_f, gb_b2i, gb_n0, gb_n1, bitN, bit0N, sh1N, orI, andI, e7_within, ite_self, n10, n01, Bool.true_eq_false, Bool.false_eq_true, f_X7_zones_4, h0, c0, hz c hc, hzc, hx]
/-! where a text is shown -/
theorem e7_isThere (hP : MP σ n P) : f_X7_isThere σ = some (b2i (decide (0 < n)), σ) := by
  have hn := hP.2.1
  have h0 := hP.1
  simp (disch := omega) only [lit_nI, nI_leS, nI_ltS, nI_eqS, nI_clS, nI_add, mulI, tI_leS, tI_ltS, tI_eqS, tI_m1, nI_m1, tI_eqn, tI_eqn2, tI_ltn, tI_nle, tI_len, tI_nlt, gi_nI, gi_lit, gz_nI, bnd_some, jn_def, vb_def, if_true, if_false, b2i_0, b2i_1, b2i_t, b2i_f, gb_b2i, gb_n0, gb_n1, bitN, bit0N, sh1N, orI, andI, e7_within, ite_self, n10, n01, Bool.true_eq_false, Bool.false_eq_true, f_X7_isThere, h0]
  have e : (0 < n) = ¬ n ≤ 0 := propext (by omega)
  rcases Classical.propComplete (n ≤ 0) with q1 | q1 <;> simp [e, q1, b2i_t, b2i_f, gb_n0, gb_n1, n10, n01, nI_eqS]
theorem e7_inkLength (hP : MP σ n P) (h : MS σ N ne fi la) (hT : MT σ N T) : f_X7_inkLength σ = some (nI (if 0 < n ∧ 0 < mxN T N then mxN T N * (n + 1) - 1 else 0), σ) := by
  have hN := h.2.1
  have hn := hP.2.1
  have h0 := hP.1
  have hD : mxN T N ≤ 14 := mxN_le (fun j hj => (hT j hj).2)
  have hd := e7_depth h.1 hN hT
  generalize mxN T N = D at hD hd
  simp (disch := omega) only [lit_nI, nI_leS, nI_ltS, nI_eqS, nI_clS, nI_add, mulI, tI_leS, tI_ltS, tI_eqS, tI_m1, nI_m1, tI_eqn, tI_eqn2, tI_ltn, tI_nle, tI_len, tI_nlt, gi_nI, gi_lit, gz_nI, bnd_some, jn_def, vb_def, if_true, if_false, b2i_0, b2i_1, b2i_t, b2i_f, gb_b2i, gb_n0, gb_n1, bitN, bit0N, sh1N, orI, andI, e7_within, ite_self, n10, n01, Bool.true_eq_false, Bool.false_eq_true, f_X7_inkLength, e7_isThere hP, hd, h0]
  by_cases q1 : 0 < n
  · by_cases q2 : 0 < D
    · have q3 : ¬ D ≤ 0 := by omega
      have q4 : 1 ≤ D * (n + 1) := Nat.mul_pos q2 (by omega)
      simp [q1, q2, q3, subI q4]
    · have q3 : D ≤ 0 := by omega
      simp [q1, q2, q3]
  · simp [q1]
/-- a character of the plan's text -/
def inkC (x : Nat) : Int32 := if x = 0 then nI 46 else if pc x 16 ≤ 1 then nI 97 + lowB x 16 else nI 35
theorem e7_inkNow (hP : MP σ n P) (h : MS σ N ne fi la) (hT : MT σ N T) {p : Nat} (hn0 : 0 < n) (hp : p < 200) : f_X7_inkNow (nI p) σ = some (if p % (n + 1) = n then nI 47 else inkC (msk ne (fun s => decide (T s = p / (n + 1) + 1) && wi fi la s (p % (n + 1))) N), σ) := by
  have hN := h.2.1
  have hn := hP.2.1
  have h0 := hP.1
  have hm : p % (n + 1) < n + 1 := Nat.mod_lt _ (by omega)
  have hd : p / (n + 1) < 100 := Nat.div_lt_of_lt_mul (by omega)
  have e1 : nI p - nI p / nI (n + 1) * nI (n + 1) = nI (p % (n + 1)) := pk_rem (by omega) (by omega) (by omega)
  have e2 : nI p / nI (n + 1) = nI (p / (n + 1)) := pk_div (by omega) (by omega) (by omega)
  have hx := e7_flat h hT (r := p / (n + 1)) (c := p % (n + 1))
  have m1 : msk ne (fun s => decide (T s = p / (n + 1) + 1) && wi fi la s (p % (n + 1))) N < 64 := msk_lt (fun s hs => (h.2.2 s hs).2.1)
  generalize msk ne (fun s => decide (T s = p / (n + 1) + 1) && wi fi la s (p % (n + 1))) N = x at hx m1
  generalize p / (n + 1) = d at hd hx e2
  generalize p % (n + 1) = q at hm hx e1
  simp (disch := omega) only [lit_nI, nI_leS, nI_ltS, nI_eqS, nI_clS, nI_add, mulI, tI_leS, tI_ltS, tI_eqS, tI_m1, nI_m1, tI_eqn, tI_eqn2, tI_ltn, tI_nle, tI_len, tI_nlt, gi_nI, gi_lit, gz_nI, bnd_some, jn_def, vb_def, if_true, if_false, b2i_0, b2i_1, b2i_t, b2i_f, gb_b2i, gb_n0, gb_n1, bitN, bit0N, sh1N, orI, andI, e7_within, ite_self, n10, n01, Bool.true_eq_false, Bool.false_eq_true, f_X7_inkNow, h0, e1]
  by_cases q1 : q = n
  · simp [q1]
  · have hx' := hx hd (by omega)
    have z1 := e7_size (big64 m1) σ
    have z2 := e7_leastOf (big64 m1) σ
    have p1 := pc_le x 16
    rw [inkC]
    generalize pc x 16 = y at z1 p1
    simp (disch := omega) only [lit_nI, nI_leS, nI_ltS, nI_eqS, nI_clS, nI_add, mulI, tI_leS, tI_ltS, tI_eqS, tI_m1, nI_m1, tI_eqn, tI_eqn2, tI_ltn, tI_nle, tI_len, tI_nlt, gi_nI, gi_lit, gz_nI, bnd_some, jn_def, vb_def, if_true, if_false, b2i_0, b2i_1, b2i_t, b2i_f, gb_b2i, gb_n0, gb_n1, bitN, bit0N, sh1N, orI, andI, e7_within, ite_self, n10, n01, Bool.true_eq_false, Bool.false_eq_true, e2, q1, hx', z1, z2]
    by_cases g1 : x = 0
    · simp [g1]
    · by_cases g2 : y ≤ 1 <;> simp [g1, g2]
end
