/-! ===== digest: the plan, the text, the counts; the whole ===== -/
section
variable {σ σ' τ τ' : xSt} {n C l b : Nat} {P T X : Nat → Nat}
def inkN (n D : Nat) : Nat := if 0 < n ∧ 0 < D then D * (n + 1) - 1 else 0
theorem inkN_lt {D : Nat} (hn : n ≤ 8) (hD : D ≤ 14) : inkN n D ≤ 200 := by
  rw [inkN]
  split
  · have : D * (n + 1) ≤ 14 * 9 := Nat.mul_le_mul hD (by omega)
    omega
  · omega
theorem RR.dep (h : RR σ τ n C P T l X b) : mxN T (sgs P n C 6).length ≤ 14 := mxN_le (fun j hj => (h.2.1.mt j hj).2)
theorem d6_ink (h6 : RC σ n C P T) (h7 : RM τ n C P T) (N : Nat) (hN : N ≤ 200) (v : Int64) (k : Int64 → xSt → Option (Int64 × xSt)) : f_X6_digestPlan_30 (nI N) k FU v 0 σ = k (dg (fun i => vo (f_X6_ink (nI i) σ)) v N) σ := by
  refine lpC (fun m v w x => f_X6_digestPlan_30 (nI N) k m v w x) k _ N (by omega) v σ (fun m i w hi => ?_) (fun m w => ?_)
  · show f_X6_digestPlan_30 (nI N) k (m + 1) w (nI i) σ = _
    obtain ⟨r, e1, _⟩ := o_ink h6 h7 (nI i)
    rw [f_X6_digestPlan_30, if_neg (xn_le hi (by omega)), e1, bnd_some, x6_mix, bnd_some, xn_s, vo_some]
  · show f_X6_digestPlan_30 (nI N) k (m + 1) w (nI N) σ = _
    rw [f_X6_digestPlan_30, if_pos (Int32.le_refl _)]
theorem d7_ink (h : RR σ τ n C P T l X b) (k : xSt → Option (Unit × xSt)) : ∃ τ', RR σ τ' n C P T l X b ∧ τ'.2 = dg (fun i => vo (f_X6_ink (nI i) σ)) τ.2 (inkN n (mxN T (sgs P n C 6).length)) ∧ f_X7_mixChannel_91 (nI (inkN n (mxN T (sgs P n C 6).length))) k FU 0 τ = k τ' := by
  have hl := inkN_lt h.1.1.2.1 h.dep
  refine lpM (fun m w t => f_X7_mixChannel_91 (nI (inkN n (mxN T (sgs P n C 6).length))) k m w t) k _ _ (by omega) h (fun m i t hi ht => ?_) (fun m t ht => ?_)
  · obtain ⟨r, e1, _, e2⟩ := o_ink ht.1 ht.2.1 (nI i)
    have e3 := e2 i hi rfl
    refine ⟨upl t (mxd t.2 r), ht.upl _, ?_, ?_⟩
    · show mxd t.2 r = _
      rw [e1, vo_some]
    · show f_X7_mixChannel_91 _ k (m + 1) (nI i) t = _
      rw [f_X7_mixChannel_91, if_neg (xn_le hi (by omega)), e3, bnd_some, x7_mix, bnd_some, xn_s]
  · show f_X7_mixChannel_91 _ k (m + 1) (nI _) t = _
    rw [f_X7_mixChannel_91, if_pos (Int32.le_refl _)]
/-! cells -/
def clV (P T : Nat → Nat) (n C r c : Nat) : Int32 := lowB (vns P T (gN (sgs P n C 6)) (gF (sgs P n C 6)) (gL (sgs P n C 6)) (sgs P n C 6).length r c) 16
theorem d6_cell1 (h6 : RC σ n C P T) {r : Nat} (hr : r < mxN T (sgs P n C 6).length) (v : Int64) (k : Int64 → xSt → Option (Int64 × xSt)) : f_X6_digestPlan_67 (nI r) k FU v 0 σ = k (dg (fun c => clV P T n C r c) v n) σ := by
  have hn := h6.1.2.1
  refine lpC (fun m v w x => f_X6_digestPlan_67 (nI r) k m v w x) k _ n (by omega) v σ (fun m i w hi => ?_) (fun m w => ?_)
  · show f_X6_digestPlan_67 (nI r) k (m + 1) w (nI i) σ = _
    rw [f_X6_digestPlan_67, h6.1.1, if_neg (xn_le hi (by omega)), (e6_cell h6 hr hi).2.1, bnd_some, x6_mix, bnd_some, xn_s, clV]
  · show f_X6_digestPlan_67 (nI r) k (m + 1) w (nI n) σ = _
    rw [f_X6_digestPlan_67, h6.1.1, if_pos (Int32.le_refl _)]
theorem d6_cell (h6 : RC σ n C P T) (hn0 : 0 < n) (hD : mxN T (sgs P n C 6).length ≤ 14) (v : Int64) (k : Int64 → xSt → Option (Int64 × xSt)) : f_X6_digestPlan_57 (nI (mxN T (sgs P n C 6).length)) k FU v 0 σ = k (dg (fun i => clV P T n C (i / n) (i % n)) v (n * mxN T (sgs P n C 6).length)) σ := by
  refine lpF (fun m (a : Int64 × Int32) => f_X6_digestPlan_57 (nI (mxN T (sgs P n C 6).length)) k m a.1 a.2 σ) (fun i => (dg (fun i => clV P T n C (i / n) (i % n)) v (n * i), nI i)) (mxN T (sgs P n C 6).length) _ (by omega) (fun m i hi => ?_) (fun m => ?_)
  · show f_X6_digestPlan_57 (nI (mxN T (sgs P n C 6).length)) k (m + 1) (dg (fun i => clV P T n C (i / n) (i % n)) v (n * i)) (nI i) σ = f_X6_digestPlan_57 (nI (mxN T (sgs P n C 6).length)) k m (dg (fun i => clV P T n C (i / n) (i % n)) v (n * (i + 1))) (nI (i + 1)) σ
    have e : dg (fun c => clV P T n C i c) (dg (fun i => clV P T n C (i / n) (i % n)) v (n * i)) n = dg (fun i => clV P T n C (i / n) (i % n)) v (n * i + n) := (dg_congr (fun j hj => by
      show clV P T n C i j = clV P T n C ((n * i + j) / n) ((n * i + j) % n)
      rw [Nat.mul_add_div hn0, Nat.mul_add_mod, Nat.div_eq_of_lt hj, Nat.mod_eq_of_lt hj, Nat.add_zero])).trans (dg_add (fun i => clV P T n C (i / n) (i % n)) v (n * i) n)
    rw [f_X6_digestPlan_57, if_neg (xn_le hi (by omega)), d6_cell1 h6 hi, xn_s, e, Nat.mul_succ]
  · show f_X6_digestPlan_57 (nI (mxN T (sgs P n C 6).length)) k (m + 1) _ (nI (mxN T (sgs P n C 6).length)) σ = _
    rw [f_X6_digestPlan_57, if_pos (Int32.le_refl _)]
theorem d7_cell (h : RR σ τ n C P T l X b) (hn0 : 0 < n) (k : xSt → Option (Unit × xSt)) : ∃ τ', RR σ τ' n C P T l X b ∧ τ'.2 = dg (fun i => clV P T n C (i / n) (i % n)) τ.2 (n * mxN T (sgs P n C 6).length) ∧ f_X7_mixChannel_124 (nI (n * mxN T (sgs P n C 6).length)) k FU 0 τ = k τ' := by
  have hn := h.1.1.2.1
  have hD := h.dep
  have hm : n * mxN T (sgs P n C 6).length ≤ 8 * 14 := Nat.mul_le_mul hn hD
  refine lpM (fun m w t => f_X7_mixChannel_124 (nI (n * mxN T (sgs P n C 6).length)) k m w t) k _ _ (by omega) h (fun m i t hi ht => ?_) (fun m t ht => ?_)
  · refine ⟨upl t (mxd t.2 (clV P T n C (i / n) (i % n))), ht.upl _, rfl, ?_⟩
    show f_X7_mixChannel_124 _ k (m + 1) (nI i) t = _
    have hd : i / n < 100 := by
      have := Nat.div_le_self i n
      have h2 : i / n < mxN T (sgs P n C 6).length := Nat.div_lt_of_lt_mul hi
      omega
    have hr : i % n < n := Nat.mod_lt _ hn0
    have d1 : nI i - nI i / nI n * nI n = nI (i % n) := pk_rem (by omega) (by omega) (by omega)
    have d2 : nI i / nI n = nI (i / n) := pk_div (by omega) (by omega) (by omega)
    have u2 := e7_upright ht.2.1.1 ht.2.1.ms ht.2.1.mt hd hr
    have m2 : vns P T (gN (sgs P n C 6)) (gF (sgs P n C 6)) (gL (sgs P n C 6)) (sgs P n C 6).length (i / n) (i % n) < 64 := vns_lt (fun s hs => (ht.1.cs.2.2 s hs).2.1) (ht.1.1.2.2 (2 * (i % n)) (by omega)).2
    rw [f_X7_mixChannel_124, if_neg (xn_le hi (by omega)), ht.2.1.1.1, gz_nI hn0 (by omega), gz_nI hn0 (by omega), d1, d2, u2, bnd_some, e7_leastOf (big64 m2), bnd_some, x7_mix, bnd_some, xn_s, clV]
  · show f_X7_mixChannel_124 _ k (m + 1) (nI _) t = _
    rw [f_X7_mixChannel_124, if_pos (Int32.le_refl _)]
/-! text and counts -/
theorem d6_tail (h : RR σ τ n C P T l X b) (v : Int64) : f_X6_digest_31 (fun (e14 : Int64) (s15 : xSt) => f_X6_digest_64 (fun (e20 : Int64) (s21 : xSt) => some (e20, s21)) FU e14 0 s15) FU v 0 σ = some (dg (fun i => vo (f_X6_count (nI i) σ)) (dg (fun i => nI (X i)) v l) 9, σ) := by
  obtain ⟨t1, t2, t3, t4⟩ := h.2.2.1
  have e1 := lpC (fun m v w x => f_X6_digest_31 (fun (e14 : Int64) (s15 : xSt) => f_X6_digest_64 (fun (e20 : Int64) (s21 : xSt) => some (e20, s21)) FU e14 0 s15) m v w x) (fun (e14 : Int64) (s15 : xSt) => f_X6_digest_64 (fun (e20 : Int64) (s21 : xSt) => some (e20, s21)) FU e14 0 s15) (fun i => nI (X i)) l (by omega) v σ (fun m i w hi => by
    show f_X6_digest_31 _ (m + 1) w (nI i) σ = _
    rw [f_X6_digest_31, t2, if_neg (xn_le hi (by omega)), gi_nI (by omega) (by omega), nI_clS (by omega), (t4 i hi).1, x6_mix, bnd_some, xn_s]) (fun m w => by
    show f_X6_digest_31 _ (m + 1) w (nI l) σ = _
    rw [f_X6_digest_31, t2, if_pos (Int32.le_refl _)])
  refine e1.trans ?_
  exact lpC (fun m v w x => f_X6_digest_64 (fun (e20 : Int64) (s21 : xSt) => some (e20, s21)) m v w x) (fun (e20 : Int64) (s21 : xSt) => some (e20, s21)) (fun i => vo (f_X6_count (nI i) σ)) 9 (by omega) _ σ (fun m i w hi => by
    show f_X6_digest_64 _ (m + 1) w (nI i) σ = _
    obtain ⟨r, q1, _⟩ := o_count h (nI i)
    rw [f_X6_digest_64, if_neg (show ¬ (8 : Int32) < nI i from xn_lt (a := 8) (by omega) (by omega)), q1, bnd_some, x6_mix, bnd_some, xn_s, vo_some]) (fun m w => by
    show f_X6_digest_64 _ (m + 1) w (nI 9) σ = _
    rw [f_X6_digest_64, if_pos (show (8 : Int32) < nI 9 by decide)])
theorem d7_tail (h : RR σ τ n C P T l X b) : ∃ τ', RR σ τ' n C P T l X b ∧ f_X7_digest_20 (fun (s11 : xSt) => f_X7_digest_47 (fun (s16 : xSt) => some (s16.2, s16)) FU 0 s11) FU 0 τ = some (dg (fun i => vo (f_X6_count (nI i) σ)) (dg (fun i => nI (X i)) τ.2 l) 9, τ') := by
  have hl := h.2.2.1.1
  obtain ⟨τ1, a1, a2, a3⟩ := lpM (fun m w t => f_X7_digest_20 (fun (s11 : xSt) => f_X7_digest_47 (fun (s16 : xSt) => some (s16.2, s16)) FU 0 s11) m w t) (fun (s11 : xSt) => f_X7_digest_47 (fun (s16 : xSt) => some (s16.2, s16)) FU 0 s11) (fun i => nI (X i)) l (by omega) h (fun m i t hi ht => by
    obtain ⟨t1, t2, t3, t4⟩ := ht.2.2.1
    refine ⟨upl t (mxd t.2 (nI (X i))), ht.upl _, rfl, ?_⟩
    show f_X7_digest_20 _ (m + 1) (nI i) t = _
    rw [f_X7_digest_20, t3, if_neg (xn_le hi (by omega)), gi_nI (by omega) (by omega), nI_clS (by omega), (t4 i hi).2.1, x7_mix, bnd_some, xn_s]) (fun m t ht => by
    obtain ⟨t1, t2, t3, t4⟩ := ht.2.2.1
    show f_X7_digest_20 _ (m + 1) (nI l) t = _
    rw [f_X7_digest_20, t3, if_pos (Int32.le_refl _)])
  obtain ⟨τ2, b1, b2, b3⟩ := lpM (fun m w t => f_X7_digest_47 (fun (s16 : xSt) => some (s16.2, s16)) m w t) (fun (s16 : xSt) => some (s16.2, s16)) (fun i => vo (f_X6_count (nI i) σ)) 9 (by omega) a1 (fun m i t hi ht => by
    obtain ⟨r, q1, q2⟩ := o_count ht (nI i)
    refine ⟨upl t (mxd t.2 r), ht.upl _, ?_, ?_⟩
    · show mxd t.2 r = _
      rw [q1, vo_some]
    · show f_X7_digest_47 _ (m + 1) (nI i) t = _
      rw [f_X7_digest_47, if_neg (show ¬ (9 : Int32) ≤ nI i from xn_le (a := 9) hi (by omega)), q2, bnd_some, x7_mix, bnd_some, xn_s]) (fun m t ht => by
    show f_X7_digest_47 _ (m + 1) (nI 9) t = _
    rw [f_X7_digest_47, if_pos (show (9 : Int32) ≤ nI 9 by decide)])
  refine ⟨τ2, b1, a3.trans (b3.trans ?_)⟩
  rw [b2, a2]
/-! a channel's part -/
theorem d6_plan (h : RR σ τ n C P T l X b) (hn0 : 0 < n) (v : Int64) : f_X6_digestPlan v σ = some (dg (fun i => clV P T n C (i / n) (i % n)) (dg (fun i => vo (f_X6_ink (nI i) σ)) v (inkN n (mxN T (sgs P n C 6).length))) (n * mxN T (sgs P n C 6).length), σ) := by
  have h6 := h.1
  have hl := h6.len
  have hT := h6.2.2.2.2.2.2
  have hD := h.dep
  have hn := h6.1.2.1
  have hd := e1_depth hT
  rw [mxN14 hT hl] at hd
  rw [f_X6_digestPlan, hd, bnd_some, vb_def, h6.1.1, xn_s, mulI]
  rcases Nat.eq_zero_or_pos (mxN T (sgs P n C 6).length) with q | q
  · have e0 : inkN n (mxN T (sgs P n C 6).length) = 0 := by rw [inkN, if_neg (fun g => by omega)]
    have e1 := lpC (fun m v w x => f_X6_digestPlan_30 (nI (mxN T (sgs P n C 6).length * (n + 1)) - 1) (fun (e8 : Int64) (s9 : xSt) => f_X6_digestPlan_57 (nI (mxN T (sgs P n C 6).length)) (fun (e16 : Int64) (s17 : xSt) => some (e16, s17)) FU e8 0 s9) m v w x) (fun (e8 : Int64) (s9 : xSt) => f_X6_digestPlan_57 (nI (mxN T (sgs P n C 6).length)) (fun (e16 : Int64) (s17 : xSt) => some (e16, s17)) FU e8 0 s9) (fun i => vo (f_X6_ink (nI i) σ)) 0 (by omega) v σ (fun m i w hi => absurd hi (Nat.not_lt_zero i)) (fun m w => by
      show f_X6_digestPlan_30 _ _ (m + 1) w (nI 0) σ = _
      rw [f_X6_digestPlan_30, q, Nat.zero_mul, if_pos (show nI 0 - 1 ≤ nI 0 by decide)])
    refine e1.trans ?_
    rw [e0]
    exact d6_cell h6 hn0 hD _ _
  · have e0 : inkN n (mxN T (sgs P n C 6).length) = mxN T (sgs P n C 6).length * (n + 1) - 1 := by rw [inkN, if_pos ⟨hn0, q⟩]
    have hp : 1 ≤ mxN T (sgs P n C 6).length * (n + 1) := Nat.mul_pos q (by omega)
    have hb := inkN_lt hn hD
    rw [show nI (mxN T (sgs P n C 6).length * (n + 1)) - 1 = nI (mxN T (sgs P n C 6).length * (n + 1) - 1) from subI (b := 1) hp, ← e0]
    refine (d6_ink h6 h.2.1 _ hb v _).trans ?_
    exact d6_cell h6 hn0 hD _ _
theorem d_channel (h : RR σ τ n C P T l X b) (hn0 : 0 < n) : ∃ σ' τ', RR σ' τ' n C P T l X b ∧ f_X7_mixChannel τ = some ((), τ') ∧ ∀ j : Int64 → xSt → Option (Int64 × xSt), bnd (f_X6_digestChannel τ.2 σ) (fun r22 s23 => bnd (f_X6_digestSegments r22 s23) (fun r24 s25 => bnd (f_X6_digestPlan r24 s25) (fun r26 s27 => j r26 s27))) = j τ'.2 σ' := by
  obtain ⟨σ1, τ1, a1, a2, a3⟩ := d_about h hn0 (fun (e5 : Int64) (s6 : xSt) => f_X6_digestChannel_32 (fun (e15 : Int64) (s16 : xSt) => f_X6_digestChannel_83 (fun (e24 : Int64) (s25 : xSt) => some (e24, s25)) FU e15 0 s16) FU e5 0 s6) (fun (s5 : xSt) => f_X7_mixChannel_26 (fun (s8 : xSt) => f_X7_mixChannel_55 (fun (s11 : xSt) => bnd (f_X7_mixSegments  s11) (fun r12 s13 => bnd (f_X7_inkLength  s13) (fun r14 s15 => f_X7_mixChannel_91 r14 (fun (s20 : xSt) => bnd (f_X7_depth  s20) (fun r21 s22 => vb (r21 * (s22.1 0 0)) (fun x23 => f_X7_mixChannel_124 x23 (fun (s30 : xSt) => some ((), s30)) FU 0 s22))) FU 0 s15))) FU 0 s8) FU 0 s5)
  obtain ⟨τ2, b1, b2, b3⟩ := d7_pins a1 (fun (s8 : xSt) => f_X7_mixChannel_55 (fun (s11 : xSt) => bnd (f_X7_mixSegments  s11) (fun r12 s13 => bnd (f_X7_inkLength  s13) (fun r14 s15 => f_X7_mixChannel_91 r14 (fun (s20 : xSt) => bnd (f_X7_depth  s20) (fun r21 s22 => vb (r21 * (s22.1 0 0)) (fun x23 => f_X7_mixChannel_124 x23 (fun (s30 : xSt) => some ((), s30)) FU 0 s22))) FU 0 s15))) FU 0 s8)
  obtain ⟨τ3, c1, c2, c3⟩ := d7_split b1 (fun (s11 : xSt) => bnd (f_X7_mixSegments  s11) (fun r12 s13 => bnd (f_X7_inkLength  s13) (fun r14 s15 => f_X7_mixChannel_91 r14 (fun (s20 : xSt) => bnd (f_X7_depth  s20) (fun r21 s22 => vb (r21 * (s22.1 0 0)) (fun x23 => f_X7_mixChannel_124 x23 (fun (s30 : xSt) => some ((), s30)) FU 0 s22))) FU 0 s15)))
  obtain ⟨fr, Nr, r1, r2⟩ := d_ring a1
  obtain ⟨τ4, d1, d2, d3⟩ := d7_seg c1 (fun (s5 : xSt) => f_X7_mixSegments_38 (fun (s8 : xSt) => bnd (f_X7_zones (-1) s8) (fun r9 s10 => f_X7_mixSegments_71 r9 (fun (s15 : xSt) => some ((), s15)) FU 0 s10)) FU 0 s5)
  obtain ⟨τ5, e1, e2, e3⟩ := r2 τ4 (fun (s8 : xSt) => bnd (f_X7_zones (-1) s8) (fun r9 s10 => f_X7_mixSegments_71 r9 (fun (s15 : xSt) => some ((), s15)) FU 0 s10)) d1
  obtain ⟨τ6, f1, f2, f3⟩ := d7_zone e1 (fun (s15 : xSt) => some ((), s15))
  obtain ⟨τ7, g1, g2, g3⟩ := d7_ink f1 (fun (s20 : xSt) => bnd (f_X7_depth  s20) (fun r21 s22 => vb (r21 * (s22.1 0 0)) (fun x23 => f_X7_mixChannel_124 x23 (fun (s30 : xSt) => some ((), s30)) FU 0 s22)))
  obtain ⟨τ8, k1, k2, k3⟩ := d7_cell g1 hn0 (fun (s30 : xSt) => some ((), s30))
  have m1 : f_X7_mixSegments τ3 = some ((), τ6) := by
    rw [f_X7_mixSegments]
    refine d3.trans (e3.trans ?_)
    rw [e7_zones_m1 e1.2.1.1 e1.2.1.ms, bnd_some]
    exact f3
  have m2 := e7_inkLength f1.2.1.1 f1.2.1.ms f1.2.1.mt
  have m3 := e7_depth g1.2.1.ms.1 g1.1.len g1.2.1.mt
  refine ⟨σ1, τ8, k1, ?_, fun j => ?_⟩
  · rw [f_X7_mixChannel]
    refine a3.trans (b3.trans (c3.trans ?_))
    rw [m1, bnd_some, m2, bnd_some]
    refine g3.trans ?_
    rw [m3, bnd_some, vb_def, g1.2.1.1.1, mulI, Nat.mul_comm]
    exact k3
  · have p1 : f_X6_digestChannel τ.2 σ = some (τ3.2, σ1) := by
      rw [f_X6_digestChannel]
      refine a2.trans ((d6_pins a1.1.1 _ _).trans ((d6_split a1.1.2.2.1 a1.1.2.1 _ _).trans ?_))
      rw [c2, b2]
    have p2 : f_X6_digestSegments τ3.2 σ1 = some (τ6.2, σ1) := by
      rw [f_X6_digestSegments]
      refine (d6_seg a1.1 a1.2.1 _ _).trans ((r1 _ _).trans ((d6_zone a1.1 _ _).trans ?_))
      rw [f2, e2, d2]
    have p3 : f_X6_digestPlan τ6.2 σ1 = some (τ8.2, σ1) := by
      rw [d6_plan a1 hn0, k2, g2]
    rw [p1, bnd_some, p2, bnd_some, p3, bnd_some]
theorem o_digest (h : RR σ τ n C P T l X b) : ∃ (r : Int64) (σ' τ' : xSt), f_X6_digest σ = some (r, σ') ∧ f_X7_digest τ = some (r, τ') ∧ RE σ' τ' := by
  have hu := h.upl 1489
  have hc := e6_hasChannel h.1.1
  have hi := e7_isThere hu.2.1.1
  by_cases q : 0 < n
  · rw [decide_eq_true q] at hc hi
    obtain ⟨σ1, τ1, a1, a2, a3⟩ := d_channel hu q
    obtain ⟨τ2, b1, b2⟩ := d7_tail a1
    refine ⟨dg (fun i => vo (f_X6_count (nI i) σ1)) (dg (fun i => nI (X i)) τ1.2 l) 9, σ1, τ2, ?_, ?_, b1.e⟩
    · rw [f_X6_digest, hc, bnd_some]
      simp only [jn_def]
      rw [if_neg (show ¬ b2i true = 0 by decide)]
      exact (a3 _).trans (d6_tail a1 _)
    · rw [f_X7_digest, vb_def, hi, bnd_some]
      simp only [jn_def]
      rw [if_neg (show ¬ b2i true = 0 by decide), a2, bnd_some]
      exact b2
  · rw [decide_eq_false q] at hc hi
    obtain ⟨τ2, b1, b2⟩ := d7_tail hu
    refine ⟨dg (fun i => vo (f_X6_count (nI i) σ)) (dg (fun i => nI (X i)) (upl τ 1489).2 l) 9, σ, τ2, ?_, ?_, b1.e⟩
    · rw [f_X6_digest, hc, bnd_some]
      simp only [jn_def]
      rw [if_pos (show b2i false = 0 by decide)]
      exact d6_tail h _
    · rw [f_X7_digest, vb_def, hi, bnd_some]
      simp only [jn_def]
      rw [if_pos (show b2i false = 0 by decide)]
      exact b2
end
