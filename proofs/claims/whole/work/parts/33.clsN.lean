section
variable {σ : xSt} {o n N : Nat} {P ne fi la : Nat → Nat} {L : List (Nat × Nat × Nat)}
theorem e_bcc {p : Nat → Bool} {n : Nat} (hm : cmk p n < 16384) (hn : n ≤ 16) (τ : xSt) : f_J6_bitCount_0f7a4 (nI (cmk p n)) τ = some (nI (cnt p n), τ) := by
  have h := eJ_bitCount hm τ
  rw [pc_cmk hn] at h
  exact h
theorem e3_net1 {τ : xSt} (hP' : CP τ n P) {C i : Nat} (hC : C < 64) (hi : i < 6) (b1 : C.testBit i = true) {M : List (Nat × Nat × Nat)} (i2 : HC τ o n P M) (hw : M.length + (pcs P i n).length ≤ 14) : ∃ τ', HC τ' o n P (M ++ pcs P i n) ∧ Fr (sC o) τ τ' ∧ ∀ m k, f_X3_build_7 o (nI C) k (m + 1) (nI i) τ = f_X3_build_7 o (nI C) k m (nI (i + 1)) τ' := by
  have hn := hP'.2.1
  have c0 : ¬ 6 ≤ i := by omega
  have hcw := e0_columnsWith hP' hi
  obtain ⟨τ', g1, g2, g3⟩ := e3_addPieces hn i2 hi hw
  refine ⟨τ', g2, g3, fun m k => ?_⟩
  simp (disch := omega) only [lit_nI, nI_leS, nI_ltS, nI_eqS, nI_clS, nI_add, mulI, tI_leS, tI_ltS, tI_eqS, tI_m1, nI_m1, tI_eqn, tI_eqn2, tI_ltn, tI_nle, tI_len, tI_nlt, gi_nI, gi_lit, gz_nI, bnd_some, jn_def, vb_def, if_true, if_false, b2i_0, b2i_1, b2i_t, b2i_f, gb_b2i, gb_n0, gb_n1, bitN, bit0N, sh1N, orI, andI, e7_within, ite_self, n10, n01, Bool.true_eq_false, Bool.false_eq_true, f_X3_build_7, c0, hcw, b1, g1]
theorem e3_net2 {τ : xSt} (hP' : CP τ n P) {C i : Nat} (hC : C < 64) (hi : i < 6) (b1 : C.testBit i = false) {M : List (Nat × Nat × Nat)} (i2 : HC τ o n P M) (hw : M.length + 1 ≤ 14) (q : fpn P i n < lpn P i n) : ∃ τ', HC τ' o n P (M ++ [(i, fpn P i n - 1, lpn P i n - 1)]) ∧ Fr (sC o) τ τ' ∧ ∀ m k, f_X3_build_7 o (nI C) k (m + 1) (nI i) τ = f_X3_build_7 o (nI C) k m (nI (i + 1)) τ' := by
  have hn := hP'.2.1
  have hm : cmk (hp P i) n < 16384 := cmk14 (by omega)
  have hm8 : cmk (hp P i) n < 256 := Nat.lt_of_lt_of_le cmk_lt (Nat.pow_le_pow_right (n := 2) (by decide) hn)
  have c0 : ¬ 6 ≤ i := by omega
  have hcw := e0_columnsWith hP' hi
  have hbc : f_J6_bitCount_0f7a4 (nI (cmk (hp P i) n)) τ = some (nI (cnt (hp P i) n), τ) := e_bcc hm (by omega) τ
  have hcn := cnt_le (hp P i) n
  have hf : fpn P i n ≠ 0 := fun e => by have := (fpn_le P i n).2.mp e; omega
  have hc2 := cnt_fpn P i n q
  have hlo := e6_lowest hm τ
  rw [low_cmk hn hf] at hlo
  have hhi := e6_highest (P := P) (w := i) hn (by omega) τ
  obtain ⟨τ', g1, g2, g3⟩ := e3_add i2 (by omega) i (fpn P i n - 1) (lpn P i n - 1) hm8 (atc_whole hn q)
  refine ⟨τ', g2, g3, fun m k => ?_⟩
  generalize cnt (hp P i) n = y at *
  generalize cmk (hp P i) n = x at *
  have c1 : ¬ y ≤ 1 := by omega
  have k0 : ¬ (6 : Int32) ≤ nI i := nI_ge (b := 6) hi (by omega)
  have k1 : (nI C &&& ((1 : Int32) <<< (nI i &&& 31))) = 0 := by rw [bit0 (Nat.lt_trans hC (Nat.le_of_ble_eq_true rfl)) (by omega)]; exact b1
  have k2 : ¬ nI y ≤ (1 : Int32) := nI_ge (a := 1) (by omega) (by omega)
  rw [f_X3_build_7, if_neg k0, hcw, bnd_some, jn_def, if_pos k1, hbc, bnd_some, if_neg k2, hlo, bnd_some, hhi, bnd_some, g1, bnd_some, nI_1]
theorem e3_net3 {τ : xSt} (hP' : CP τ n P) {C i : Nat} (hC : C < 64) (hi : i < 6) (b1 : C.testBit i = false) (q : ¬ fpn P i n < lpn P i n) : ∀ m k, f_X3_build_7 o (nI C) k (m + 1) (nI i) τ = f_X3_build_7 o (nI C) k m (nI (i + 1)) τ := by
  have hn := hP'.2.1
  have hm : cmk (hp P i) n < 16384 := cmk14 (by omega)
  have c0 : ¬ 6 ≤ i := by omega
  have hcw := e0_columnsWith hP' hi
  have hbc : f_J6_bitCount_0f7a4 (nI (cmk (hp P i) n)) τ = some (nI (cnt (hp P i) n), τ) := e_bcc hm (by omega) τ
  have c1 : cnt (hp P i) n ≤ 1 := cnt_one P i n (by have := (fpn_le P i n).1; omega)
  intro m k
  generalize cnt (hp P i) n = y at *
  generalize cmk (hp P i) n = x at *
  have k0 : ¬ (6 : Int32) ≤ nI i := nI_ge (b := 6) hi (by omega)
  have k1 : (nI C &&& ((1 : Int32) <<< (nI i &&& 31))) = 0 := by rw [bit0 (Nat.lt_trans hC (Nat.le_of_ble_eq_true rfl)) (by omega)]; exact b1
  have k2 : nI y ≤ (1 : Int32) := nI_le (b := 1) c1 (by omega)
  rw [f_X3_build_7, if_neg k0, hcw, bnd_some, jn_def, if_pos k1, hbc, bnd_some, if_pos k2, nI_1]
theorem e3_buildNets (ho : 4 < o) (hP : CP σ n P) {C : Nat} (hC : C < 64) (h0 : σ.1 o 8 = nI 0) : ∃ σ', HC σ' o n P (sgs P n C 6) ∧ Fr (sC o) σ σ' ∧ ∀ k, f_X3_build_7 o (nI C) k FU (nI 0) σ = k σ' := by
  have hn := hP.2.1
  obtain ⟨⟨a1, τ⟩, ⟨i1, i2, i3⟩, i4⟩ := lpK (fun k m (a : Int32 × xSt) => f_X3_build_7 o (nI C) k m a.1 a.2) (fun i a => a.1 = nI i ∧ HC a.2 o n P (sgs P n C i) ∧ Fr (sC o) σ a.2) 6 (fun k a => k a.2) (by omega) (fun m i a hi hI => by
    obtain ⟨a1, τ⟩ := a
    obtain ⟨i1, i2, i3⟩ := hI
    dsimp only at i1 i2 i3 ⊢
    subst i1
    have hP' := hP.fr ho i3
    have hw := sgs_w (C := C) hi hn (fun k hk => (hP.2.2 k hk).2)
    have e : sgs P n C (i + 1) = sgs P n C i ++ sgW P n C i := rfl
    rcases Bool.eq_false_or_eq_true (C.testBit i) with b1 | b1
    · have es : sgW P n C i = pcs P i n := by rw [sgW, b1]; rfl
      rw [es] at hw e
      obtain ⟨τ', g1, g2, g3⟩ := e3_net1 hP' hC hi b1 i2 hw
      exact ⟨(nI (i + 1), τ'), ⟨rfl, by rw [e]; exact g1, i3.tr g2⟩, fun k => g3 m k⟩
    · have es : sgW P n C i = whl P i n := by rw [sgW, b1]; rfl
      rw [es] at hw e
      by_cases q : fpn P i n < lpn P i n
      · have ew : whl P i n = [(i, fpn P i n - 1, lpn P i n - 1)] := by rw [whl, if_pos q]
        rw [ew] at hw e
        obtain ⟨τ', g1, g2, g3⟩ := e3_net2 hP' hC hi b1 i2 hw q
        exact ⟨(nI (i + 1), τ'), ⟨rfl, by rw [e]; exact g1, i3.tr g2⟩, fun k => g3 m k⟩
      · have ew : whl P i n = [] := by rw [whl, if_neg q]
        rw [ew] at e
        exact ⟨(nI (i + 1), τ), ⟨rfl, by rw [e, List.append_nil]; exact i2, i3⟩, fun k => e3_net3 hP' hC hi b1 q m k⟩) (fun m a hI => by
    obtain ⟨a1, τ⟩ := a
    obtain ⟨i1, i2, i3⟩ := hI
    dsimp only at i1 i2 i3 ⊢
    subst i1
    intro k
    simp (disch := omega) only [lit_nI, nI_leS, nI_ltS, nI_eqS, nI_clS, nI_add, mulI, tI_leS, tI_ltS, tI_eqS, tI_m1, nI_m1, tI_eqn, tI_eqn2, tI_ltn, tI_nle, tI_len, tI_nlt, gi_nI, gi_lit, gz_nI, bnd_some, jn_def, vb_def, if_true, if_false, b2i_0, b2i_1, b2i_t, b2i_f, gb_b2i, gb_n0, gb_n1, bitN, bit0N, sh1N, orI, andI, e7_within, ite_self, n10, n01, Bool.true_eq_false, Bool.false_eq_true, f_X3_build_7, Nat.le_refl]) (nI 0, σ) ⟨rfl, ⟨h0, fun s hs => absurd hs (Nat.not_lt_zero s)⟩, Fr.rf⟩
  exact ⟨τ, i2, i3, i4⟩
/-! constraints -/
/-- the segments, with what they are attached to -/
def HD (σ : xSt) (o n N : Nat) (P ne fi la : Nat → Nat) : Prop := CS σ o N ne fi la ∧ CA σ o n N P ne fi la
/-- which is above which, so far -/
def MX (σ : xSt) (o N : Nat) (E : Nat → Nat → Bool) : Prop := ∀ s, s < N → σ.1 (o + 4) s = nI (cmk (E s) N) ∧ σ.1 (o + 5) s = nI (cmk (fun p => E p s) N)
def sX (o : Nat) (c _ : Nat) : Bool := decide (c = o + 4) || decide (c = o + 5)
theorem HD.fr {σ' : xSt} (h : HD σ o n N P ne fi la) (hf : Fr (sX o) σ σ') : HD σ' o n N P ne fi la := by
  obtain ⟨⟨h1, h2, h3⟩, h4⟩ := h
  refine ⟨⟨(hf.1 o 8 (by simp [sX])).trans h1, h2, fun s hs => ?_⟩, fun s hs => ?_⟩
  · obtain ⟨⟨a1, a2, a3⟩, a4⟩ := h3 s hs
    exact ⟨⟨(hf.1 (o + 1) s (by simp [sX])).trans a1, (hf.1 (o + 2) s (by simp [sX])).trans a2, (hf.1 (o + 3) s (by simp [sX])).trans a3⟩, a4⟩
  · obtain ⟨a, a1, a2⟩ := h4 s hs
    exact ⟨a, (hf.1 (o + 8) s (by simp [sX])).trans a1, a2⟩
theorem e3_isJoinedT (h : HD σ o n N P ne fi la) (hn : n ≤ 8) {s p c : Nat} (hs : s < N) (hp : p ≤ 6) (hc : c < n) : f_X3_isJoined o (nI s) (tI p) (nI c) σ = some (b2i (decide (ne s + 1 = p) && tch P ne fi la s c), σ) := by
  obtain ⟨hS, hA⟩ := h
  have hN := hS.2.1
  obtain ⟨⟨h4, h5, h6⟩, h7, h8, h9⟩ := hS.2.2 s hs
  obtain ⟨a, a1, a2, a3⟩ := hA s hs
  simp (disch := omega) only [lit_nI, nI_leS, nI_ltS, nI_eqS, nI_clS, nI_add, mulI, tI_leS, tI_ltS, tI_eqS, tI_m1, nI_m1, tI_eqn, tI_eqn2, tI_ltn, tI_nle, tI_len, tI_nlt, gi_nI, gi_lit, gz_nI, bnd_some, jn_def, vb_def, if_true, if_false, b2i_0, b2i_1, b2i_t, b2i_f, gb_b2i, gb_n0, gb_n1, bitN, bit0N, sh1N, orI, andI, e7_within, ite_self, n10, n01, Bool.true_eq_false, Bool.false_eq_true, f_X3_isJoined, h4, a1, a3 c hc]
  rcases Classical.propComplete (ne s + 1 = p) with q2 | q2 <;> rcases Bool.eq_false_or_eq_true (tch P ne fi la s c) with b1 | b1 <;> simp [q2, b1, b2i_t, b2i_f, gb_n0, gb_n1, n10, n01, nI_eqS]
theorem cmk_set {p : Nat → Bool} {t : Nat} (ht : t < N) : cmk p N ||| 2 ^ t = cmk (fun x => p x || decide (x = t)) N := by
  apply Nat.eq_of_testBit_eq
  intro i
  rw [tb_or, cmk_bit, cmk_bit]
  by_cases e : i = t
  · subst e; simp [ht]
  · simp [e]
theorem cmk_ext {p q : Nat → Bool} (h : ∀ i, i < N → p i = q i) : cmk p N = cmk q N := by
  apply Nat.eq_of_testBit_eq
  intro i
  rw [cmk_bit, cmk_bit]
  by_cases e : i < N
  · simp [e, h i e]
  · simp [e]
theorem MX.ext {E E' : Nat → Nat → Bool} (h : MX σ o N E) (he : ∀ s t, s < N → t < N → E s t = E' s t) : MX σ o N E' := by
  intro s hs
  obtain ⟨h1, h2⟩ := h s hs
  exact ⟨by rw [h1, cmk_ext (fun t ht => he s t hs ht)], by rw [h2, cmk_ext (fun p hp => he p s hp hs)]⟩
theorem MX.set {E : Nat → Nat → Bool} (h : MX σ o N E) (hN : N ≤ 14) {s t : Nat} (hs : s < N) (ht : t < N) : MX (up2 (up2 σ (o + 4) s (nI (cmk (E s) N ||| 2 ^ t))) (o + 5) t (nI (cmk (fun p => E p t) N ||| 2 ^ s))) o N (fun x y => E x y || (decide (x = s) && decide (y = t))) := by
  intro x hx
  obtain ⟨h1, h2⟩ := h x hx
  refine ⟨?_, ?_⟩
  · rw [up2_cell _ _ _ _ (by omega)]
    by_cases e : x = s
    · subst e
      rw [up2_same, cmk_set ht]
      congr 1
      apply cmk_ext
      intro i _
      simp
    · rw [up2_place _ _ _ _ e, h1]
      congr 1
      apply cmk_ext
      intro i _
      simp [e]
  · by_cases e : x = t
    · subst e
      rw [up2_same, cmk_set hs]
      congr 1
      apply cmk_ext
      intro i _
      simp
    · rw [up2_place _ _ _ _ e, up2_cell _ _ _ _ (by omega), h2]
      congr 1
      apply cmk_ext
      intro i _
      simp [e]
def jb (P ne fi la : Nat → Nat) (c t : Nat) : Bool := decide (ne t + 1 = P (2 * c + 1)) && tch P ne fi la t c
def jt (P ne fi la : Nat → Nat) (c s : Nat) : Bool := decide (ne s + 1 = P (2 * c)) && tch P ne fi la s c
theorem e3_con31 (h : HD σ o n N P ne fi la) (hn : n ≤ 8) {E : Nat → Nat → Bool} (hE : MX σ o N E) {c s : Nat} (hc : c < n) (hp : P (2 * c + 1) ≤ 6) (hs : s < N) (u : Bool) : ∃ σ', MX σ' o N (fun x y => E x y || (decide (x = s) && (u && jb P ne fi la c y))) ∧ Fr (sX o) σ σ' ∧ ∀ k, f_X3_constrain_31 o (nI c) (tI (P (2 * c + 1))) (nI s) (b2i u) k FU (nI 0) σ = k σ' := by
  have hN := h.1.2.1
  cases u with
  | false =>
    refine ⟨σ, hE.ext (fun x y _ _ => by simp), Fr.rf, fun k => ?_⟩
    have := FU_big
    obtain ⟨m, hm⟩ : ∃ m, FU = m + 1 := ⟨FU - 1, by omega⟩
    rw [hm]
    simp (disch := omega) only [lit_nI, nI_leS, nI_ltS, nI_eqS, nI_clS, nI_add, mulI, tI_leS, tI_ltS, tI_eqS, tI_m1, nI_m1, tI_eqn, tI_eqn2, tI_ltn, tI_nle, tI_len, tI_nlt, gi_nI, gi_lit, gz_nI, bnd_some, jn_def, vb_def, if_true, if_false, b2i_0, b2i_1, b2i_t, b2i_f, gb_b2i, gb_n0, gb_n1, bitN, bit0N, sh1N, orI, andI, e7_within, ite_self, n10, n01, Bool.true_eq_false, Bool.false_eq_true, f_X3_constrain_31]
  | true =>
    obtain ⟨⟨a1, τ⟩, ⟨i1, i2, i3⟩, i4⟩ := lpK (fun k m (a : Int32 × xSt) => f_X3_constrain_31 o (nI c) (tI (P (2 * c + 1))) (nI s) (b2i true) k m a.1 a.2) (fun i a => a.1 = nI i ∧ MX a.2 o N (fun x y => E x y || (decide (x = s) && (decide (y < i) && jb P ne fi la c y))) ∧ Fr (sX o) σ a.2) N (fun k a => k a.2) (by omega) (fun m i a hi hI => by
      obtain ⟨a1, τ⟩ := a
      obtain ⟨i1, i2, i3⟩ := hI
      dsimp only at i1 i2 i3 ⊢
      subst i1
      have c0 : ¬ N ≤ i := by omega
      have h' := h.fr i3
      have h0 := h'.1.1
      have hj := e3_isJoinedT h' hn hi hp hc
      rcases Bool.eq_false_or_eq_true (jb P ne fi la c i) with b1 | b1
      · have b1' := b1
        rw [jb] at b1'
        obtain ⟨Ei, hEi⟩ : ∃ Ei : Nat → Nat → Bool, (fun x y => E x y || (decide (x = s) && (decide (y < i) && jb P ne fi la c y))) = Ei := ⟨_, rfl⟩
        rw [hEi] at i2
        have m1 := (i2 s hs).1
        have m2 := (i2 i hi).2
        have l1 : cmk (Ei s) N < 16384 := cmk14 hN
        have l2 : cmk (fun p => Ei p i) N < 16384 := cmk14 hN
        have hset := i2.set hN hs hi
        refine ⟨(nI (i + 1), up2 (up2 τ (o + 4) s (nI (cmk (Ei s) N ||| 2 ^ i))) (o + 5) i (nI (cmk (fun p => Ei p i) N ||| 2 ^ s))), ⟨rfl, hset.ext (fun x y hx hy => ?_), i3.tr ((Fr.up (by simp [sX])).tr (Fr.up (by simp [sX])))⟩, fun k => ?_⟩
        · rw [← hEi]
          by_cases ex : x = s
          · subst ex
            by_cases ey : y = i
            · subst ey; simp [b1]
            · have : decide (y < i + 1) = decide (y < i) := by rw [Bool.eq_iff_iff, decide_eq_true_eq, decide_eq_true_eq]; omega
              simp [ey, this]
          · simp [ex]
        · dsimp only
          simp (disch := omega) only [lit_nI, nI_leS, nI_ltS, nI_eqS, nI_clS, nI_add, mulI, tI_leS, tI_ltS, tI_eqS, tI_m1, nI_m1, tI_eqn, tI_eqn2, tI_ltn, tI_nle, tI_len, tI_nlt, gi_nI, gi_lit, gz_nI, bnd_some, jn_def, vb_def, if_true, if_false, b2i_0, b2i_1, b2i_t, b2i_f, gb_b2i, gb_n0, gb_n1, bitN, bit0N, sh1N, orI, andI, e7_within, ite_self, n10, n01, Bool.true_eq_false, Bool.false_eq_true, f_X3_constrain_31, h0, c0, hj, b1', m1, m2, up2_cell]
      · have b1' := b1
        rw [jb] at b1'
        refine ⟨(nI (i + 1), τ), ⟨rfl, i2.ext (fun x y hx hy => ?_), i3⟩, fun k => ?_⟩
        · by_cases ey : y = i
          · subst ey; simp [b1]
          · have : decide (y < i + 1) = decide (y < i) := by rw [Bool.eq_iff_iff, decide_eq_true_eq, decide_eq_true_eq]; omega
            simp [this]
        · simp (disch := omega) only [lit_nI, nI_leS, nI_ltS, nI_eqS, nI_clS, nI_add, mulI, tI_leS, tI_ltS, tI_eqS, tI_m1, nI_m1, tI_eqn, tI_eqn2, tI_ltn, tI_nle, tI_len, tI_nlt, gi_nI, gi_lit, gz_nI, bnd_some, jn_def, vb_def, if_true, if_false, b2i_0, b2i_1, b2i_t, b2i_f, gb_b2i, gb_n0, gb_n1, bitN, bit0N, sh1N, orI, andI, e7_within, ite_self, n10, n01, Bool.true_eq_false, Bool.false_eq_true, f_X3_constrain_31, h0, c0, hj, b1']) (fun m a hI => by
      obtain ⟨a1, τ⟩ := a
      obtain ⟨i1, i2, i3⟩ := hI
      dsimp only at i1 i2 i3 ⊢
      subst i1
      intro k
      have h0 := (h.fr i3).1.1
      simp (disch := omega) only [lit_nI, nI_leS, nI_ltS, nI_eqS, nI_clS, nI_add, mulI, tI_leS, tI_ltS, tI_eqS, tI_m1, nI_m1, tI_eqn, tI_eqn2, tI_ltn, tI_nle, tI_len, tI_nlt, gi_nI, gi_lit, gz_nI, bnd_some, jn_def, vb_def, if_true, if_false, b2i_0, b2i_1, b2i_t, b2i_f, gb_b2i, gb_n0, gb_n1, bitN, bit0N, sh1N, orI, andI, e7_within, ite_self, n10, n01, Bool.true_eq_false, Bool.false_eq_true, f_X3_constrain_31, h0, Nat.le_refl]) (nI 0, σ) ⟨rfl, hE.ext (fun x y _ _ => by simp), Fr.rf⟩
    refine ⟨τ, i2.ext (fun x y hx hy => ?_), i3, i4⟩
    simp [hy]
end
