/-! ===== what is asked: pins, nets, segments, cycle, zones ===== -/
theorem low_eq : ∀ x, x < 64 → lowB x 31 = lowB x 16 := by decide +kernel
theorem w_t {j hi : Nat} (h : j ≤ hi) (hh : hi < 2147483648) : (decide ((0 : Int32) ≤ nI j) && decide (nI j ≤ nI hi)) = true := (w_in hh).mpr ⟨j, h, rfl⟩
theorem w_f {a : Int32} {hi : Nat} (hh : hi + 1 < 2147483648) (h : a < 0 ∨ nI (hi + 1) ≤ a) : (decide ((0 : Int32) ≤ a) && decide (a ≤ nI hi)) = false := by
  rw [Bool.eq_false_iff]
  intro e
  obtain ⟨j, h1, h2⟩ := (w_in (by omega)).mp e
  exact n_lt hh h (show j < hi + 1 by omega) h2
theorem cnt_at {p : Nat → Bool} : ∀ {N j : Nat}, j < cnt p N → ∃ c, c < N ∧ p c = true ∧ cnt p c = j
  | 0, j, h => absurd h (Nat.not_lt_zero j)
  | N + 1, j, h => by
    have e : cnt p (N + 1) = cnt p N + (if p N then 1 else 0) := rfl
    rcases Nat.lt_or_ge j (cnt p N) with h1 | h1
    · obtain ⟨c, h2, h3, h4⟩ := cnt_at h1
      exact ⟨c, by omega, h3, h4⟩
    · by_cases q : p N = true
      · rw [e, if_pos q] at h
        exact ⟨N, by omega, q, by omega⟩
      · rw [e, if_neg q] at h; omega
section
variable {σ τ : xSt} {n C l b : Nat} {P T X : Nat → Nat}
theorem e6_isSide (c : Int32) : f_X6_isSide c σ = some (b2i (decide ((0 : Int32) ≤ c) && decide (c ≤ nI 1)), σ) := by
  rcases c_lt c 2 (by omega) with ⟨j, h1, h2⟩ | h
  · subst h2
    rw [w_t (by omega) (by omega)]
    rcases (show j = 0 ∨ j = 1 by omega) with h | h <;> subst h <;> rfl
  · rw [w_f (hi := 1) (by omega) h, f_X6_isSide]
    have h0 : ¬ c = 0 := n_lt (N := 2) (by omega) h (j := 0) (by omega)
    have h1 : ¬ c = 1 := n_lt (N := 2) (by omega) h (j := 1) (by omega)
    simp only [jn_def, if_neg h0, if_neg h1]
    rfl
theorem e6_isNet (c : Int32) : f_X6_isNet c σ = some (b2i (decide ((0 : Int32) ≤ c) && decide (c ≤ nI 5)), σ) := by
  rcases c_lt c 6 (by omega) with ⟨j, h1, h2⟩ | h
  · subst h2
    rw [w_t (by omega) (by omega)]
    have c1 : ¬ j < 0 := by omega
    have c2 : ¬ 6 ≤ j := by omega
    simp (disch := omega) only [lit_nI, nI_leS, nI_ltS, nI_eqS, nI_clS, nI_add, mulI, tI_leS, tI_ltS, tI_eqS, tI_m1, nI_m1, tI_eqn, tI_eqn2, tI_ltn, tI_nle, tI_len, tI_nlt, gi_nI, gi_lit, gz_nI, bnd_some, jn_def, vb_def, if_true, if_false, b2i_0, b2i_1, b2i_t, b2i_f, gb_b2i, gb_n0, gb_n1, bitN, bit0N, sh1N, orI, andI, e7_within, ite_self, n10, n01, Bool.true_eq_false, Bool.false_eq_true, f_X6_isNet, c1, c2]
  · rw [w_f (hi := 5) (by omega) h, f_X6_isNet]
    simp only [jn_def]
    by_cases q : c < 0
    · rw [if_pos q]; rfl
    · rcases h with h | h
      · exact absurd h q
      · rw [if_neg q, if_pos (show (6 : Int32) ≤ c from h)]; rfl
theorem o_pin (hC : CP σ n P) (hM : MP τ n P) (a c : Int32) : ∃ r, f_X6_pin a c σ = some (r, σ) ∧ f_X7_pin a c τ = some (r, τ) := by
  have hn := hC.2.1
  rcases c_lt a n (by omega) with ⟨j, h1, h2⟩ | h
  · subst h2
    obtain ⟨q1, q2⟩ := in_t (show n < 1000 by omega) h1
    rcases c_lt c 2 (by omega) with ⟨d, h3, h4⟩ | h3
    · subst h4
      refine ⟨tI (P (2 * j + d)), ?_, ?_⟩
      · rw [f_X6_pin, e6_isColumn hC, q1, bnd_some, e6_isSide, w_t (show d ≤ 1 by omega) (by omega), bnd_some, e0_netOf hC h1 h3, bnd_some]
        rfl
      · have h6 := (hM.2.2 (2 * j + d) (by omega)).1
        have e := e7_isColumn hM (nI j)
        rw [q2] at e
        have w := w_t (show d ≤ 1 by omega) (show (1 : Nat) < 2147483648 by omega)
        have e2 := e7_within (nI d) (nI 0) (nI 1) τ
        rw [show (decide (nI 0 ≤ nI d) && decide (nI d ≤ nI 1)) = true from w] at e2
        simp (disch := omega) only [f_X7_pin, lit_nI, mulI, nI_add, e, e2, bnd_some, jn_def, b2i_t, nI_eqS, n10, if_false, gi_nI, nI_clS, h6]
    · refine ⟨-102, ?_, ?_⟩
      · rw [f_X6_pin, e6_isColumn hC, q1, bnd_some, e6_isSide, w_f (hi := 1) (by omega) h3, bnd_some]
        rfl
      · rw [f_X7_pin, e7_isColumn hM, q2, bnd_some, e7_within, show (decide ((0 : Int32) ≤ c) && decide (c ≤ 1)) = false from w_f (hi := 1) (by omega) h3]
        rfl
  · obtain ⟨q1, q2⟩ := in_f (show n < 1000 by omega) h
    refine ⟨-101, ?_, ?_⟩
    · rw [f_X6_pin, e6_isColumn hC, q1, bnd_some]; rfl
    · rw [f_X7_pin, e7_isColumn hM, q2, bnd_some]; rfl
theorem e6_isSplit (hc : σ.1 0 7 = nI C) (hC : C < 64) {w : Nat} (hw : w < 6) : f_X6_isSplit (nI w) σ = some (b2i (C.testBit w), σ) := by
  have hb := bit0 (m := C) (k := w) (by omega) (by omega)
  rw [f_X6_isSplit, hc]
  simp only [jn_def]
  cases q : C.testBit w
  · rw [q] at hb
    rw [if_pos (hb.mpr rfl)]; rfl
  · rw [q] at hb
    rw [if_neg (fun e => absurd (hb.mp e) (by decide))]; rfl
theorem o_net (h6 : RC σ n C P T) (h7 : RM τ n C P T) (a c : Int32) : ∃ r, f_X6_net a c σ = some (r, σ) ∧ f_X7_net a c τ = some (r, τ) := by
  have hC := h6.1
  have hM := h7.1
  have hn := hC.2.1
  rcases c_lt a 6 (by omega) with ⟨w, h1, h2⟩ | h
  · subst h2
    have hw := w_t (show w ≤ 5 by omega) (show (5 : Nat) < 2147483648 by omega)
    have e1 := e6_isNet (σ := σ) (nI w)
    rw [hw] at e1
    have e2 := e0_columnsWith hC h1
    have e3 := e7_within (nI w) 0 5 τ
    rw [show (decide ((0 : Int32) ≤ nI w) && decide (nI w ≤ 5)) = true from hw] at e3
    have e4 := e7_pinsOf hM (w := w + 1) (by omega)
    have e5 := e0_pinsOf hC (w := w + 1) (by omega)
    rw [tI_succ] at e4 e5
    have hz := pins_hp (P := P) (n := n) (w := w)
    have hz2 := cmk_zero (N := n) (p := hp P w)
    have hx : cmk (hp P w) n < 16384 := cmk14 (by omega)
    have hle := cnt_le (fun k => decide (P k = w + 1)) (2 * n)
    have hlp := cnt_lpn P w n
    have hfp := fpn_le P w n
    by_cases q0 : cnt (hp P w) n = 0
    · refine ⟨-101, ?_, ?_⟩
      · rw [f_X6_net, e1, bnd_some, e2, hz2.mpr q0]; rfl
      · have : cnt (fun k => decide (P k = w + 1)) (2 * n) = 0 := by omega
        rw [this] at e4
        rw [f_X7_net, f_X7_isNetThere, e3, bnd_some]
        simp only [jn_def]
        rw [if_neg (show ¬ b2i true = 0 by decide), e4]
        rfl
    · have q1 : 0 < cnt (hp P w) n := by omega
      have q2 := hz.mpr q1
      have q3 : cmk (hp P w) n ≠ 0 := fun e => q0 (hz2.mp e)
      have q4 : lpn P w n ≠ 0 := fun e => q0 (hlp.mp e)
      have q5 : fpn P w n ≠ 0 := fun e => q4 (hfp.2.mp e)
      obtain ⟨f1, f2, f3⟩ := fpn_at P w n q5
      obtain ⟨l1, l2⟩ := lpn_at P w n q4
      have l3 := lpn_le P w n
      have there : f_X7_isNetThere (nI w) τ = some (nI 1, τ) := by
        have c1 : ¬ nI (cnt (fun k => decide (P k = w + 1)) (2 * n)) ≤ 0 := xn_le (b := 0) q2 (by omega)
        rw [f_X7_isNetThere, e3, bnd_some]
        simp only [jn_def]
        rw [if_neg (show ¬ b2i true = 0 by decide), e4, bnd_some, if_neg c1]
        rfl
      have c0 : ¬ nI (cmk (hp P w) n) = 0 := by
        have := nI_eqS (a := cmk (hp P w) n) (b := 0) (by omega) (by omega)
        exact fun e => q3 (this.mp e)
      have head6 : f_X6_net (nI w) c σ = (if c = 0 then (bnd (f_X0_pinsOf (nI w) σ) (fun r5 s6 => some (r5, s6))) else (if c = 1 then (bnd (f_X6_lowest (nI (cmk (hp P w) n)) σ) (fun r8 s9 => some (r8, s9))) else (if c = 2 then (bnd (f_X6_highest (nI (cmk (hp P w) n)) σ) (fun r11 s12 => some (r11, s12))) else (if c = 3 then (bnd (f_X6_isSplit (nI w) σ) (fun r14 s15 => jn (fun (v16 : Int32) (s17 : xSt) => some (v16, s17)) (fun j18 => if r14 = 0 then (j18 0 s15) else (j18 1 s15)))) else (if c = 4 then (bnd (f_X3_numberOf 5 (nI w) σ) (fun r20 s21 => some (r20, s21))) else (some ((-102), σ))))))) := by
        rw [f_X6_net, e1, bnd_some, if_neg (show ¬ b2i true = 0 by decide), e2, bnd_some, if_neg c0]
      have head7 : ∀ bb, (decide ((0 : Int32) ≤ c) && decide (c ≤ 4)) = bb → f_X7_net (nI w) c τ = if bb then bnd (f_X7_netNow (nI w) c τ) (fun r s => some (r, s)) else some (-102, τ) := by
        intro bb hb
        rw [f_X7_net, there, bnd_some]
        simp only [jn_def]
        rw [if_neg (show ¬ nI 1 = 0 by decide), e7_within, hb, bnd_some]
        cases bb <;> rfl
      rcases c_lt c 5 (by omega) with ⟨j, h3, h4⟩ | h3
      · subst h4
        have hd7 := head7 true (w_t (hi := 4) (show j ≤ 4 by omega) (by omega))
        rw [if_pos rfl] at hd7
        rcases (show j = 0 ∨ j = 1 ∨ j = 2 ∨ j = 3 ∨ j = 4 by omega) with h | h | h | h | h <;> subst h
        · refine ⟨nI (cnt (fun k => decide (P k = w + 1)) (2 * n)), ?_, ?_⟩
          · rw [head6, if_pos (by decide), e5]; rfl
          · rw [hd7, f_X7_netNow, if_pos (by decide), e4]; rfl
        · refine ⟨nI (fpn P w n - 1), ?_, ?_⟩
          · rw [head6, if_neg (by decide), if_pos (by decide), e6_lowest hx, bnd_some, low_cmk hn q5]
          · rw [hd7, f_X7_netNow, if_neg (by decide), if_pos (by decide), e7_firstPin hM h1 (show fpn P w n - 1 < n by omega) (fun k hk => f2 k (by omega)) f1]; rfl
        · refine ⟨nI (lpn P w n - 1), ?_, ?_⟩
          · rw [head6, if_neg (by decide), if_neg (by decide), if_pos (by decide), e6_highest hn q4, bnd_some]
          · rw [hd7, f_X7_netNow, if_neg (by decide), if_neg (by decide), if_pos (by decide), e7_lastPin hM h1 (show lpn P w n - 1 < n by omega) (fun k hk hk2 => l2 k (by omega) hk2) l1]; rfl
        · refine ⟨b2i (C.testBit w), ?_, ?_⟩
          · rw [head6, if_neg (by decide), if_neg (by decide), if_neg (by decide), if_pos (by decide), e6_isSplit h6.2.2.1 h6.2.1 h1, bnd_some]
            cases C.testBit w <;> rfl
          · rw [hd7, f_X7_netNow, if_neg (by decide), if_neg (by decide), if_neg (by decide), if_pos (by decide), h7.2.1, bitI (by have := h6.2.1; omega) (by omega)]; rfl
        · refine ⟨nI (cnt (fun s => decide (gN (sgs P n C 6) s = w)) (sgs P n C 6).length), ?_, ?_⟩
          · rw [head6, if_neg (by decide), if_neg (by decide), if_neg (by decide), if_neg (by decide), if_pos (by decide), e3_numberOf h6.cs h1]; rfl
          · rw [hd7, f_X7_netNow, if_neg (by decide), if_neg (by decide), if_neg (by decide), if_neg (by decide), e7_segmentsOf h7.ms h1]; rfl
      · have hd7 := head7 false (w_f (hi := 4) (by omega) h3)
        rw [if_neg (by decide)] at hd7
        refine ⟨-102, ?_, hd7⟩
        have z : ∀ j, j < 5 → ¬ c = nI j := fun j hj => n_lt (N := 5) (by omega) h3 hj
        rw [head6, if_neg (show ¬ c = (0 : Int32) from z 0 (by omega)), if_neg (show ¬ c = (1 : Int32) from z 1 (by omega)), if_neg (show ¬ c = (2 : Int32) from z 2 (by omega)), if_neg (show ¬ c = (3 : Int32) from z 3 (by omega)), if_neg (show ¬ c = (4 : Int32) from z 4 (by omega))]
  · refine ⟨-101, ?_, ?_⟩
    · rw [f_X6_net, e6_isNet, w_f (hi := 5) (by omega) h, bnd_some]; rfl
    · rw [f_X7_net, f_X7_isNetThere, e7_within, show (decide ((0 : Int32) ≤ a) && decide (a ≤ 5)) = false from w_f (hi := 5) (by omega) h]
      rfl
theorem o_segment (h6 : RC σ n C P T) (h7 : RM τ n C P T) (a c : Int32) : ∃ r τ', f_X6_segment a c σ = some (r, σ) ∧ f_X7_segment a c τ = some (r, τ') ∧ Fr s11 τ τ' ∧ (∀ j k, j < (sgs P n C 6).length → k < 7 → a = nI j → c = nI k → f_X7_segmentNow a c τ = some (r, τ')) := by
  have hl := h6.len
  rcases c_lt a (sgs P n C 6).length (by omega) with ⟨s, h1, h2⟩ | h
  · subst h2
    obtain ⟨q1, q2⟩ := in_t (show (sgs P n C 6).length < 1000 by omega) h1
    have e1 := e6_isSegment h6.cs.1 (nI s)
    rw [q1] at e1
    have e2 := e7_isSegment h7.ms.1 (nI s)
    rw [q2] at e2
    have head7 : ∀ bb, (decide ((0 : Int32) ≤ c) && decide (c ≤ 6)) = bb → f_X7_segment (nI s) c τ = if bb then bnd (f_X7_segmentNow (nI s) c τ) (fun r s => some (r, s)) else some (-102, τ) := by
      intro bb hb
      rw [f_X7_segment, e2, bnd_some]
      simp only [jn_def]
      rw [if_neg (show ¬ b2i true = 0 by decide), e7_within, hb, bnd_some]
      cases bb <;> rfl
    rcases c_lt c 7 (by omega) with ⟨j, h3, h4⟩ | h3
    · subst h4
      have hd7 := head7 true (w_t (hi := 6) (show j ≤ 6 by omega) (by omega))
      rw [if_pos rfl] at hd7
      obtain ⟨⟨g1, g2, g3⟩, g4, g5, g6⟩ := h6.cs.2.2 s h1
      obtain ⟨⟨k1, k2, k3⟩, _, _, _⟩ := h7.ms.2.2 s h1
      obtain ⟨b1, b2⟩ := h6.cb s h1
      obtain ⟨m1, m2⟩ := h7.mb s h1
      obtain ⟨v1, v2⟩ := h6.2.2.2.1.2.2.1 s h1
      obtain ⟨t1, t2⟩ := h6.2.2.2.2.2.2.1 s (by omega)
      obtain ⟨u1, u2⟩ := h7.mt s h1
      obtain ⟨τ1, lv1, lv2⟩ := e7_level belB h7.ms.1 hl h7.mb h7.mr h1
      have d6 : f_X6_segment (nI s) (nI j) σ = (if nI j = 0 then (gi (nI s) 14 (some (σ.1 6 (nI s).toNatClampNeg, σ))) else (if nI j = 1 then (gi (nI s) 14 (some (σ.1 7 (nI s).toNatClampNeg, σ))) else (if nI j = 2 then (gi (nI s) 14 (some (σ.1 8 (nI s).toNatClampNeg, σ))) else (if nI j = 3 then (gi (nI s) 14 (some (σ.1 29 (nI s).toNatClampNeg, σ))) else (if nI j = 4 then (gi (nI s) 14 (bnd (f_J6_bitCount_0f7a4 (σ.1 9 (nI s).toNatClampNeg) σ) (fun r7 s8 => some (r7, s8)))) else (if nI j = 5 then (gi (nI s) 14 (bnd (f_J6_bitCount_0f7a4 (σ.1 10 (nI s).toNatClampNeg) σ) (fun r10 s11 => some (r10, s11)))) else (if nI j = 6 then (gi (nI s) 14 (some (σ.1 11 (nI s).toNatClampNeg, σ))) else (some ((-102), σ))))))))) := by
        rw [f_X6_segment, e1, bnd_some, if_neg (show ¬ b2i true = 0 by decide)]
      have now : ∀ r τ', f_X7_segmentNow (nI s) (nI j) τ = some (r, τ') → Fr s11 τ τ' → f_X6_segment (nI s) (nI j) σ = some (r, σ) → ∃ r τ', f_X6_segment (nI s) (nI j) σ = some (r, σ) ∧ f_X7_segment (nI s) (nI j) τ = some (r, τ') ∧ Fr s11 τ τ' ∧ (∀ j' k', j' < (sgs P n C 6).length → k' < 7 → nI s = nI j' → nI j = nI k' → f_X7_segmentNow (nI s) (nI j) τ = some (r, τ')) := fun r τ' z1 z2 z3 => ⟨r, τ', z3, by rw [hd7, z1]; rfl, z2, fun _ _ _ _ _ _ => z1⟩
      have gg : ∀ (o : Option (Int32 × xSt)), gi (nI s) 14 o = o := fun o => gi_nI (by omega) (by omega)
      have cl : (nI s).toNatClampNeg = s := nI_clS (by omega)
      rcases (show j = 0 ∨ j = 1 ∨ j = 2 ∨ j = 3 ∨ j = 4 ∨ j = 5 ∨ j = 6 by omega) with h | h | h | h | h | h | h <;> subst h
      · refine now (nI (gN (sgs P n C 6) s)) τ ?_ Fr.rf ?_
        · rw [f_X7_segmentNow, if_pos (by decide), gg, cl, k1]
        · rw [d6, if_pos (by decide), gg, cl]; rw [show σ.1 6 s = nI (gN (sgs P n C 6) s) from g1]
      · refine now (nI (gF (sgs P n C 6) s)) τ ?_ Fr.rf ?_
        · rw [f_X7_segmentNow, if_neg (by decide), if_pos (by decide), gg, cl, k2]
        · rw [d6, if_neg (by decide), if_pos (by decide), gg, cl]; rw [show σ.1 7 s = nI (gF (sgs P n C 6) s) from g2]
      · refine now (nI (gL (sgs P n C 6) s)) τ ?_ Fr.rf ?_
        · rw [f_X7_segmentNow, if_neg (by decide), if_neg (by decide), if_pos (by decide), gg, cl, k3]
        · rw [d6, if_neg (by decide), if_neg (by decide), if_pos (by decide), gg, cl]; rw [show σ.1 8 s = nI (gL (sgs P n C 6) s) from g3]
      · refine now (tI (T s)) τ ?_ Fr.rf ?_
        · rw [f_X7_segmentNow, if_neg (by decide), if_neg (by decide), if_neg (by decide), if_pos (by decide), gg, cl, u1]
        · rw [d6, if_neg (by decide), if_neg (by decide), if_neg (by decide), if_pos (by decide), gg, cl, t1]
      · refine now (nI (pc (bel P n (sgs P n C 6) s) 16)) τ ?_ Fr.rf ?_
        · rw [f_X7_segmentNow, if_neg (by decide), if_neg (by decide), if_neg (by decide), if_neg (by decide), if_pos (by decide), gg, cl, m1, e7_size (big14 m2)]; rfl
        · rw [d6, if_neg (by decide), if_neg (by decide), if_neg (by decide), if_neg (by decide), if_pos (by decide), gg, cl]; rw [show σ.1 9 s = nI (bel P n (sgs P n C 6) s) from b1, eJ_bitCount b2, bnd_some]
      · refine now (nI (cnt (fun p => (bel P n (sgs P n C 6) p).testBit s) (sgs P n C 6).length)) τ ?_ Fr.rf ?_
        · rw [f_X7_segmentNow, if_neg (by decide), if_neg (by decide), if_neg (by decide), if_neg (by decide), if_neg (by decide), if_pos (by decide), e7_overIt h7.ms.1 hl h7.mb (by omega)]; rfl
        · rw [d6, if_neg (by decide), if_neg (by decide), if_neg (by decide), if_neg (by decide), if_neg (by decide), if_pos (by decide), gg, cl]; rw [show σ.1 10 s = nI (prd (bel P n (sgs P n C 6)) (sgs P n C 6).length s) from v1, eJ_bitCount v2, bnd_some, prd, pc_cmk (by omega)]
      · refine now (lvI (bel P n (sgs P n C 6)) (sgs P n C 6).length s) τ1 ?_ lv2 ?_
        · rw [f_X7_segmentNow, if_neg (by decide), if_neg (by decide), if_neg (by decide), if_neg (by decide), if_neg (by decide), if_neg (by decide), lv1]; rfl
        · rw [d6, if_neg (by decide), if_neg (by decide), if_neg (by decide), if_neg (by decide), if_neg (by decide), if_neg (by decide), if_pos (by decide), gg, cl]
          have : σ.1 11 s = lvI (bel P n (sgs P n C 6)) (sgs P n C 6).length s := by
            rw [lvI]
            by_cases q : cyc (bel P n (sgs P n C 6)) (sgs P n C 6).length
            · rw [cyB_t belB q, if_pos rfl]; exact (h6.2.2.2.1.2.2.2.2 q).2 s h1
            · rw [cyB_f belB q, if_neg (by decide)]; exact (h6.2.2.2.1.2.2.2.1 q).2.1 s h1
          rw [this]
    · have hd7 := head7 false (w_f (hi := 6) (by omega) h3)
      rw [if_neg (by decide)] at hd7
      have z : ∀ j, j < 7 → ¬ c = nI j := fun j hj => n_lt (N := 7) (by omega) h3 hj
      refine ⟨-102, τ, ?_, hd7, Fr.rf, fun j k _ hk _ hc => absurd hc (z k hk)⟩
      rw [f_X6_segment, e1, bnd_some, if_neg (show ¬ b2i true = 0 by decide), if_neg (show ¬ c = (0 : Int32) from z 0 (by omega)), if_neg (show ¬ c = (1 : Int32) from z 1 (by omega)), if_neg (show ¬ c = (2 : Int32) from z 2 (by omega)), if_neg (show ¬ c = (3 : Int32) from z 3 (by omega)), if_neg (show ¬ c = (4 : Int32) from z 4 (by omega)), if_neg (show ¬ c = (5 : Int32) from z 5 (by omega)), if_neg (show ¬ c = (6 : Int32) from z 6 (by omega))]
  · obtain ⟨q1, q2⟩ := in_f (show (sgs P n C 6).length < 1000 by omega) h
    refine ⟨-101, τ, ?_, ?_, Fr.rf, fun j k hj _ ha _ => absurd ha (n_lt (by omega) h hj)⟩
    · rw [f_X6_segment, e6_isSegment h6.cs.1, q1, bnd_some]; rfl
    · rw [f_X7_segment, e7_isSegment h7.ms.1, q2, bnd_some]; rfl
theorem o_above (h6 : RC σ n C P T) (h7 : RM τ n C P T) (a c : Int32) : ∃ r, f_X6_above a c σ = some (r, σ) ∧ f_X7_above a c τ = some (r, τ) := by
  have hl := h6.len
  rcases c_lt a (sgs P n C 6).length (by omega) with ⟨s, h1, h2⟩ | h
  · subst h2
    obtain ⟨q1, q2⟩ := in_t (show (sgs P n C 6).length < 1000 by omega) h1
    rcases c_lt c (sgs P n C 6).length (by omega) with ⟨t, h3, h4⟩ | h3
    · subst h4
      obtain ⟨q3, q4⟩ := in_t (show (sgs P n C 6).length < 1000 by omega) h3
      obtain ⟨m1, m2⟩ := h7.mb s h1
      refine ⟨b2i ((bel P n (sgs P n C 6) s).testBit t), ?_, ?_⟩
      · rw [f_X6_above, e6_isSegment h6.cs.1, q1, bnd_some]
        simp only [jn_def]
        rw [if_neg (show ¬ b2i true = 0 by decide), e6_isSegment h6.cs.1, q3, bnd_some, if_neg (show ¬ b2i true = 0 by decide), e3_isAbove hl h6.cb h1 h3, bnd_some]
        cases (bel P n (sgs P n C 6) s).testBit t <;> rfl
      · rw [f_X7_above, e7_isSegment h7.ms.1, q2, bnd_some]
        simp only [jn_def]
        rw [if_neg (show ¬ b2i true = 0 by decide), e7_isSegment h7.ms.1, q4, bnd_some, if_neg (show ¬ b2i true = 0 by decide), gi_nI (by omega) (by omega), nI_clS (by omega), m1, bitI (by omega) (by omega)]
    · obtain ⟨q3, q4⟩ := in_f (show (sgs P n C 6).length < 1000 by omega) h3
      refine ⟨-101, ?_, ?_⟩
      · rw [f_X6_above, e6_isSegment h6.cs.1, q1, bnd_some]
        simp only [jn_def]
        rw [if_neg (show ¬ b2i true = 0 by decide), e6_isSegment h6.cs.1, q3, bnd_some]; rfl
      · rw [f_X7_above, e7_isSegment h7.ms.1, q2, bnd_some]
        simp only [jn_def]
        rw [if_neg (show ¬ b2i true = 0 by decide), e7_isSegment h7.ms.1, q4, bnd_some]; rfl
  · obtain ⟨q1, q2⟩ := in_f (show (sgs P n C 6).length < 1000 by omega) h
    refine ⟨-101, ?_, ?_⟩
    · rw [f_X6_above, e6_isSegment h6.cs.1, q1, bnd_some]; rfl
    · rw [f_X7_above, e7_isSegment h7.ms.1, q2, bnd_some]; rfl
theorem sd_far {B : Nat → Nat} {N s t : Nat} (hBb : ∀ s, s < N → ∀ t, (B s).testBit t = true → t < N) (hs : s < N) : (far B N s).testBit t = !decide (sd B N s t = 0) := by
  rw [Bool.eq_iff_iff, far_iff hBb hs, Bool.not_eq_true', decide_eq_false_iff_not]
  constructor
  · rintro ⟨r, h1, h2⟩ h3
    exact sd_zero hBb hs h3 r h1 h2
  · intro h
    exact ⟨_, Nat.pos_of_ne_zero h, (sd_pos hBb hs h).1⟩
theorem o_may (h6 : RC σ n C P T) (h7 : RM τ n C P T) (a c : Int32) : ∃ r, f_X6_may a c σ = some (r, σ) ∧ f_X7_may a c τ = some (r, τ) := by
  have hl := h6.len
  rcases c_lt a (sgs P n C 6).length (by omega) with ⟨s, h1, h2⟩ | h
  · subst h2
    obtain ⟨q1, q2⟩ := in_t (show (sgs P n C 6).length < 1000 by omega) h1
    rcases c_lt c (sgs P n C 6).length (by omega) with ⟨t, h3, h4⟩ | h3
    · subst h4
      obtain ⟨q3, q4⟩ := in_t (show (sgs P n C 6).length < 1000 by omega) h3
      have st := e3_steps h6.cs.1 hl h6.cb h1 h3
      have ts := e3_steps h6.cs.1 hl h6.cb h3 h1
      have ov := e3_overlap h6.cs h1 h3
      have me := e7_isMet h7.ms h1 h3
      obtain ⟨fs1, fs2⟩ := h7.2.2.2.2.1 s h1
      obtain ⟨ft1, ft2⟩ := h7.2.2.2.2.1 t h3
      have bs := e7_isBit (big14 fs2) (show t < 31 by omega) τ
      have bt := e7_isBit (big14 ft2) (show s < 31 by omega) τ
      rw [sd_far belB h1] at bs
      rw [sd_far belB h3] at bt
      have d1 := sd_le (B := bel P n (sgs P n C 6)) (N := (sgs P n C 6).length) (s := s) (t := t)
      have d2 := sd_le (B := bel P n (sgs P n C 6)) (N := (sgs P n C 6).length) (s := t) (t := s)
      have sm1 := stI_m1 (show sd (bel P n (sgs P n C 6)) (sgs P n C 6).length s t < 1000 by omega)
      have sm2 := stI_m1 (show sd (bel P n (sgs P n C 6)) (sgs P n C 6).length t s < 1000 by omega)
      generalize sd (bel P n (sgs P n C 6)) (sgs P n C 6).length s t = x at *
      generalize sd (bel P n (sgs P n C 6)) (sgs P n C 6).length t s = y at *
      refine ⟨b2i (decide (x = 0) && (decide (y = 0) && !met (gN (sgs P n C 6)) (gF (sgs P n C 6)) (gL (sgs P n C 6)) s t)), ?_, ?_⟩
      · rw [f_X6_may, e6_isSegment h6.cs.1, q1, bnd_some]
        simp only [jn_def]
        rw [if_neg (show ¬ b2i true = 0 by decide), e6_isSegment h6.cs.1, q3, bnd_some, if_neg (show ¬ b2i true = 0 by decide), st, bnd_some]
        rw [ts, bnd_some, ov]
        simp only [lit_nI, sm1, sm2, bnd_some]
        generalize met (gN (sgs P n C 6)) (gF (sgs P n C 6)) (gL (sgs P n C 6)) s t = mm
        by_cases g1 : x = 0 <;> by_cases g2 : y = 0 <;> cases mm <;> simp [g1, g2, b2i_t, b2i_f, gb_n0, gb_n1, n10, n01, nI_eqS]
      · rw [f_X7_may, e7_isSegment h7.ms.1, q2, bnd_some]
        simp only [jn_def]
        rw [if_neg (show ¬ b2i true = 0 by decide), e7_isSegment h7.ms.1, q4, bnd_some, if_neg (show ¬ b2i true = 0 by decide)]
        simp (disch := omega) only [lit_nI, nI_leS, nI_ltS, nI_eqS, nI_clS, nI_add, mulI, tI_leS, tI_ltS, tI_eqS, tI_m1, nI_m1, tI_eqn, tI_eqn2, tI_ltn, tI_nle, tI_len, tI_nlt, gi_nI, gi_lit, gz_nI, bnd_some, jn_def, vb_def, if_true, if_false, b2i_0, b2i_1, b2i_t, b2i_f, gb_b2i, gb_n0, gb_n1, bitN, bit0N, sh1N, orI, andI, e7_within, ite_self, n10, n01, Bool.true_eq_false, Bool.false_eq_true, f_X7_isFree, me, fs1, bs, ft1, bt]
        generalize met (gN (sgs P n C 6)) (gF (sgs P n C 6)) (gL (sgs P n C 6)) s t = mm
        by_cases g1 : x = 0 <;> by_cases g2 : y = 0 <;> cases mm <;> simp [g1, g2, b2i_t, b2i_f, gb_n0, gb_n1, n10, n01, nI_eqS, bnd_some]
    · obtain ⟨q3, q4⟩ := in_f (show (sgs P n C 6).length < 1000 by omega) h3
      refine ⟨-101, ?_, ?_⟩
      · rw [f_X6_may, e6_isSegment h6.cs.1, q1, bnd_some]
        simp only [jn_def]
        rw [if_neg (show ¬ b2i true = 0 by decide), e6_isSegment h6.cs.1, q3, bnd_some]; rfl
      · rw [f_X7_may, e7_isSegment h7.ms.1, q2, bnd_some]
        simp only [jn_def]
        rw [if_neg (show ¬ b2i true = 0 by decide), e7_isSegment h7.ms.1, q4, bnd_some]; rfl
  · obtain ⟨q1, q2⟩ := in_f (show (sgs P n C 6).length < 1000 by omega) h
    refine ⟨-101, ?_, ?_⟩
    · rw [f_X6_may, e6_isSegment h6.cs.1, q1, bnd_some]; rfl
    · rw [f_X7_may, e7_isSegment h7.ms.1, q2, bnd_some]; rfl
theorem R_ring (h6 : RC σ n C P T) (h7 : RM τ n C P T) : ∃ (l : Nat) (f : Nat → Nat), l ≤ 14 ∧ σ.1 23 1 = nI l ∧ τ.1 0 11 = nI l ∧ (∀ k, k < l → σ.1 24 k = nI (f k) ∧ τ.1 8 k = nI (f k)) ∧ (0 < l ↔ cyc (bel P n (sgs P n C 6)) (sgs P n C 6).length) := by
  have hl := h6.len
  by_cases q : cyc (bel P n (sgs P n C 6)) (sgs P n C 6).length
  · obtain ⟨a, l, h⟩ := rng_ex belB q
    obtain ⟨c1, c2⟩ := h6.2.2.2.2.1.2 a l h
    obtain ⟨m1, m2⟩ := h7.mr.2 a l h
    have hle : l ≤ 14 := by
      have := sd_le (B := bel P n (sgs P n C 6)) (N := (sgs P n C 6).length) (s := a) (t := a)
      rw [h.2.2.1] at this
      omega
    exact ⟨l, _, hle, c1, m1, fun k hk => ⟨c2 k hk, m2 k hk⟩, ⟨fun _ => q, fun _ => h.2.1⟩⟩
  · exact ⟨0, fun _ => 0, by omega, h6.2.2.2.2.1.1 q, h7.mr.1 q, fun k hk => absurd hk (Nat.not_lt_zero k), ⟨fun e => absurd e (Nat.lt_irrefl 0), fun e => absurd e q⟩⟩
theorem o_ring (h6 : RC σ n C P T) (h7 : RM τ n C P T) (a : Int32) : ∃ r, f_X6_ring a σ = some (r, σ) ∧ f_X7_ring a τ = some (r, τ) := by
  obtain ⟨l, f, hl, c1, m1, hf, _⟩ := R_ring h6 h7
  rcases c_lt a l (by omega) with ⟨j, h1, h2⟩ | h
  · subst h2
    obtain ⟨q1, q2⟩ := in_t (show l < 1000 by omega) h1
    obtain ⟨f1, f2⟩ := hf j h1
    refine ⟨nI (f j), ?_, ?_⟩
    · have c0 : ¬ j < 0 := by omega
      simp (disch := omega) only [lit_nI, nI_leS, nI_ltS, nI_eqS, nI_clS, nI_add, mulI, tI_leS, tI_ltS, tI_eqS, tI_m1, nI_m1, tI_eqn, tI_eqn2, tI_ltn, tI_nle, tI_len, tI_nlt, gi_nI, gi_lit, gz_nI, bnd_some, jn_def, vb_def, if_true, if_false, b2i_0, b2i_1, b2i_t, b2i_f, gb_b2i, gb_n0, gb_n1, bitN, bit0N, sh1N, orI, andI, e7_within, ite_self, n10, n01, Bool.true_eq_false, Bool.false_eq_true, f_X6_ring, c1, c0, h1, f1]
    · rw [f_X7_ring, m1, e7_within, q2, bnd_some]
      simp (disch := omega) only [lit_nI, nI_leS, nI_ltS, nI_eqS, nI_clS, nI_add, mulI, tI_leS, tI_ltS, tI_eqS, tI_m1, nI_m1, tI_eqn, tI_eqn2, tI_ltn, tI_nle, tI_len, tI_nlt, gi_nI, gi_lit, gz_nI, bnd_some, jn_def, vb_def, if_true, if_false, b2i_0, b2i_1, b2i_t, b2i_f, gb_b2i, gb_n0, gb_n1, bitN, bit0N, sh1N, orI, andI, e7_within, ite_self, n10, n01, Bool.true_eq_false, Bool.false_eq_true, f2]
  · obtain ⟨q1, q2⟩ := in_f (show l < 1000 by omega) h
    refine ⟨-101, ?_, ?_⟩
    · rw [f_X6_ring, c1]
      simp only [jn_def]
      by_cases q : a < 0
      · rw [if_pos q]
      · rcases h with h | h
        · exact absurd h q
        · rw [if_neg q, if_neg (Int32.not_lt.mpr h)]
    · rw [f_X7_ring, m1, e7_within, q2, bnd_some]; rfl
theorem o_zone (h6 : RC σ n C P T) (h7 : RM τ n C P T) (a : Int32) : ∃ r, f_X6_zone a σ = some (r, σ) ∧ f_X7_zone a τ = some (r, τ) := by
  have hn := h6.1.2.1
  obtain ⟨z1, z2, z3⟩ := h6.2.2.2.2.2.1
  have hc := cnt_le (zoneB (xs (gN (sgs P n C 6)) (gF (sgs P n C 6)) (gL (sgs P n C 6)) (sgs P n C 6).length) n) n
  rcases c_lt a (cnt (zoneB (xs (gN (sgs P n C 6)) (gF (sgs P n C 6)) (gL (sgs P n C 6)) (sgs P n C 6).length) n) n) (by omega) with ⟨j, h1, h2⟩ | h
  · subst h2
    obtain ⟨c, k1, k2, k3⟩ := cnt_at h1
    have y1 := z3 c k1 k2
    have y2 := e7_zones_at h7.1 h7.ms k1 k2
    rw [k3] at y1 y2
    have hx := xs_lt h7.ms c
    generalize xs (gN (sgs P n C 6)) (gF (sgs P n C 6)) (gL (sgs P n C 6)) (sgs P n C 6).length c = x at *
    refine ⟨nI x, ?_, ?_⟩
    · have c0 : ¬ j < 0 := by omega
      simp (disch := omega) only [lit_nI, nI_leS, nI_ltS, nI_eqS, nI_clS, nI_add, mulI, tI_leS, tI_ltS, tI_eqS, tI_m1, nI_m1, tI_eqn, tI_eqn2, tI_ltn, tI_nle, tI_len, tI_nlt, gi_nI, gi_lit, gz_nI, bnd_some, jn_def, vb_def, if_true, if_false, b2i_0, b2i_1, b2i_t, b2i_f, gb_b2i, gb_n0, gb_n1, bitN, bit0N, sh1N, orI, andI, e7_within, ite_self, n10, n01, Bool.true_eq_false, Bool.false_eq_true, f_X6_zone, z2, c0, h1, y1]
    · have c0 : ¬ j < 0 := by omega
      simp (disch := omega) only [lit_nI, nI_leS, nI_ltS, nI_eqS, nI_clS, nI_add, mulI, tI_leS, tI_ltS, tI_eqS, tI_m1, nI_m1, tI_eqn, tI_eqn2, tI_ltn, tI_nle, tI_len, tI_nlt, gi_nI, gi_lit, gz_nI, bnd_some, jn_def, vb_def, if_true, if_false, b2i_0, b2i_1, b2i_t, b2i_f, gb_b2i, gb_n0, gb_n1, bitN, bit0N, sh1N, orI, andI, e7_within, ite_self, n10, n01, Bool.true_eq_false, Bool.false_eq_true, f_X7_zone, c0, y2]
  · refine ⟨-101, ?_, ?_⟩
    · rw [f_X6_zone, z2]
      simp only [jn_def]
      by_cases q : a < 0
      · rw [if_pos q]
      · rcases h with h | h
        · exact absurd h q
        · rw [if_neg q, if_neg (Int32.not_lt.mpr h)]
    · rw [f_X7_zone]
      simp only [jn_def]
      by_cases q : a < 0
      · rw [if_pos q]
      · rcases h with h | h
        · exact absurd h q
        · rcases i_cases a with h1 | ⟨j, h1, h2⟩
          · exact absurd h1 q
          · subst h2
            rw [nI_leS (by omega) h1] at h
            rw [if_neg q, e7_zones_no h7.1 h7.ms h1 h, bnd_some]
            rfl
end
