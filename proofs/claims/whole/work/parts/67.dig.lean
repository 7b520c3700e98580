/-! ===== digest: both sides as one fold ===== -/
def mxd (a : Int64) (v : Int32) : Int64 := (31 : Int64) * a + v.toInt64
theorem x6_mix (a : Int64) (v : Int32) (s : xSt) : f_X6_mix a v s = some (mxd a v, s) := rfl
theorem x7_mix (v : Int32) (s : xSt) : f_X7_mix v.toInt64 s = some ((), upl s (mxd s.2 v)) := rfl
def dg (f : Nat → Int32) (h : Int64) (N : Nat) : Int64 := fo (fun i a => mxd a (f i)) h N
theorem dg_s (f : Nat → Int32) (h : Int64) (N : Nat) : dg f h (N + 1) = mxd (dg f h N) (f N) := rfl
theorem dg_add (f : Nat → Int32) (h : Int64) (m N : Nat) : dg (fun j => f (m + j)) (dg f h m) N = dg f h (m + N) := by
  induction N with
  | zero => rfl
  | succ N ih => rw [dg_s, ih, show m + (N + 1) = (m + N) + 1 from rfl, dg_s]
theorem dg_congr {f g : Nat → Int32} {h : Int64} {N : Nat} (H : ∀ i, i < N → f i = g i) : dg f h N = dg g h N := fo_congr (fun i hi x => by rw [H i hi])
def vo (o : Option (Int32 × xSt)) : Int32 := match o with
  | none => 0
  | some q => q.1
theorem vo_some (r : Int32) (s : xSt) : vo (some (r, s)) = r := rfl
theorem lpB {A B R S : Type} (F : Nat → A → R) (G : Nat → B → S) (I : Nat → A → B → Prop) (N : Nat) (outF : A → R) (outG : B → S) (hN : N ≤ 1000000) (hs : ∀ n i a b, i < N → I i a b → ∃ a' b', I (i + 1) a' b' ∧ F (n + 1) a = F n a' ∧ G (n + 1) b = G n b') (he : ∀ n a b, I N a b → F (n + 1) a = outF a ∧ G (n + 1) b = outG b) (a : A) (b : B) (h0 : I 0 a b) : ∃ a' b', I N a' b' ∧ F FU a = outF a' ∧ G FU b = outG b' := by
  obtain ⟨p, h1, h2⟩ := lpI (fun n (p : A × B) => (F n p.1, G n p.2)) (fun i p => I i p.1 p.2) N (fun p => (outF p.1, outG p.2)) hN (fun n i p hi hp => by
    obtain ⟨a', b', h1, h2, h3⟩ := hs n i p.1 p.2 hi hp
    exact ⟨(a', b'), h1, Prod.ext h2 h3⟩) (fun n p hp => by
    obtain ⟨h1, h2⟩ := he n p.1 p.2 hp
    exact Prod.ext h1 h2) (a, b) h0
  exact ⟨p.1, p.2, h1, congrArg Prod.fst h2, congrArg Prod.snd h2⟩
section
variable {σ σ' τ τ' : xSt} {n C l b : Nat} {P T X : Nat → Nat}
theorem RR.upl (h : RR σ τ n C P T l X b) (v : Int64) : RR σ (upl τ v) n C P T l X b := h.rd (fun _ _ _ => rfl) (fun _ _ _ => rfl)
/-! about -/
theorem d_about (h : RR σ τ n C P T l X b) (hn0 : 0 < n) (k6 : Int64 → xSt → Option (Int64 × xSt)) (k7 : xSt → Option (Unit × xSt)) : ∃ σ' τ', RR σ' τ' n C P T l X b ∧ f_X6_digestChannel_5 k6 FU τ.2 0 σ = k6 τ'.2 σ' ∧ f_X7_mixChannel_2 k7 FU 0 τ = k7 τ' := by
  refine (lpB (fun m (a : Int64 × Int32 × xSt) => f_X6_digestChannel_5 k6 m a.1 a.2.1 a.2.2) (fun m (c : Int32 × xSt) => f_X7_mixChannel_2 k7 m c.1 c.2) (fun i a c => a.1 = c.2.2 ∧ a.2.1 = nI i ∧ c.1 = nI i ∧ RR a.2.2 c.2 n C P T l X b) 10 (fun a => k6 a.1 a.2.2) (fun c => k7 c.2) (by omega) (fun m i a c hi hp => ?_) (fun m a c hp => ?_) (τ.2, nI 0, σ) (nI 0, τ) ⟨rfl, rfl, rfl, h⟩).elim (fun a hh => hh.elim (fun c hh => ⟨a.2.2, c.2, hh.1.2.2.2, by rw [← hh.1.1]; exact hh.2.1, hh.2.2⟩))
  · obtain ⟨v, w, s⟩ := a
    obtain ⟨u, t⟩ := c
    obtain ⟨p1, p2, p3, p4⟩ := hp
    have p1' : v = t.2 := p1
    have p2' : w = nI i := p2
    have p3' : u = nI i := p3
    subst p1' p2' p3'
    obtain ⟨r, s', t', q1, q2, q3, q4⟩ := o_aboutNow p4 hn0 hi
    refine ⟨(mxd t.2 r, nI (i + 1), s'), (nI (i + 1), upl t' (mxd t'.2 r)), ⟨?_, rfl, rfl, q3.upl _⟩, ?_, ?_⟩
    · show mxd t.2 r = mxd t'.2 r
      rw [q4]
    · show f_X6_digestChannel_5 k6 (m + 1) t.2 (nI i) s = f_X6_digestChannel_5 k6 m (mxd t.2 r) (nI (i + 1)) s'
      rw [f_X6_digestChannel_5, if_neg (show ¬ (9 : Int32) < nI i from xn_lt (a := 9) (by omega) (by omega)), q1, bnd_some, x6_mix, bnd_some, xn_s]
    · show f_X7_mixChannel_2 k7 (m + 1) (nI i) t = f_X7_mixChannel_2 k7 m (nI (i + 1)) (upl t' (mxd t'.2 r))
      rw [f_X7_mixChannel_2, if_neg (show ¬ (10 : Int32) ≤ nI i from xn_le (a := 10) (by omega) (by omega)), q2, bnd_some, x7_mix, bnd_some, xn_s]
  · obtain ⟨v, w, s⟩ := a
    obtain ⟨u, t⟩ := c
    obtain ⟨p1, p2, p3, p4⟩ := hp
    have p2' : w = nI 10 := p2
    have p3' : u = nI 10 := p3
    subst p2' p3'
    constructor
    · show f_X6_digestChannel_5 k6 (m + 1) v (nI 10) s = _
      rw [f_X6_digestChannel_5, if_pos (show (9 : Int32) < nI 10 by decide)]
    · show f_X7_mixChannel_2 k7 (m + 1) (nI 10) t = _
      rw [f_X7_mixChannel_2, if_pos (show (10 : Int32) ≤ nI 10 by decide)]
/-! pins -/
theorem d6_pins (hC : CP σ n P) (v : Int64) (k : Int64 → xSt → Option (Int64 × xSt)) : f_X6_digestChannel_32 k FU v 0 σ = k (dg (fun i => tI (P i)) v (2 * n)) σ := by
  have hn := hC.2.1
  refine lpF (fun m (a : Int64 × Int32) => f_X6_digestChannel_32 k m a.1 a.2 σ) (fun i => (dg (fun i => tI (P i)) v (2 * i), nI i)) n _ (by omega) (fun m i hi => ?_) (fun m => ?_)
  · show f_X6_digestChannel_32 k (m + 1) (dg (fun i => tI (P i)) v (2 * i)) (nI i) σ = f_X6_digestChannel_32 k m (dg (fun i => tI (P i)) v (2 * (i + 1))) (nI (i + 1)) σ
    have e0 : f_X0_netOf (nI i) 0 σ = some (tI (P (2 * i)), σ) := e0_netOf hC hi (d := 0) (by omega)
    have e1 : f_X0_netOf (nI i) 1 σ = some (tI (P (2 * i + 1)), σ) := e0_netOf hC hi (d := 1) (by omega)
    rw [f_X6_digestChannel_32, hC.1, if_neg (xn_le hi (by omega)), e0, bnd_some, x6_mix, bnd_some, e1, bnd_some, x6_mix, bnd_some, xn_s, show 2 * (i + 1) = 2 * i + 1 + 1 by omega, dg_s, dg_s]
  · show f_X6_digestChannel_32 k (m + 1) (dg (fun i => tI (P i)) v (2 * n)) (nI n) σ = _
    rw [f_X6_digestChannel_32, hC.1, if_pos (Int32.le_refl _)]
/-- a loop of the reference that mixes and changes nothing else of weight -/
theorem lpM {R : Type} (F : Nat → Int32 → xSt → R) (k : xSt → R) (f : Nat → Int32) (N : Nat) (hN : N ≤ 1000) (h : RR σ τ n C P T l X b)
    (hs : ∀ m i t, i < N → RR σ t n C P T l X b → ∃ t', RR σ t' n C P T l X b ∧ t'.2 = mxd t.2 (f i) ∧ F (m + 1) (nI i) t = F m (nI (i + 1)) t') (he : ∀ m t, RR σ t n C P T l X b → F (m + 1) (nI N) t = k t) : ∃ τ', RR σ τ' n C P T l X b ∧ τ'.2 = dg f τ.2 N ∧ F FU 0 τ = k τ' := by
  refine (lpI (fun m (a : Int32 × xSt) => F m a.1 a.2) (fun i a => a.1 = nI i ∧ RR σ a.2 n C P T l X b ∧ a.2.2 = dg f τ.2 i) N (fun a => k a.2) (by omega) (fun m i a hi hp => ?_) (fun m a hp => ?_) (nI 0, τ) ⟨rfl, h, rfl⟩).elim (fun a hh => ⟨a.2, hh.1.2.1, hh.1.2.2, hh.2⟩)
  · obtain ⟨u, t⟩ := a
    obtain ⟨p1, p2, p3⟩ := hp
    have p1' : u = nI i := p1
    have p3' : t.2 = dg f τ.2 i := p3
    subst p1'
    obtain ⟨t', q1, q2, q3⟩ := hs m i t hi p2
    refine ⟨(nI (i + 1), t'), ⟨rfl, q1, ?_⟩, q3⟩
    rw [q2, p3', ← dg_s]
  · obtain ⟨u, t⟩ := a
    obtain ⟨p1, p2, p3⟩ := hp
    have p1' : u = nI N := p1
    subst p1'
    exact he m t p2
/-- a loop of the class that mixes and changes nothing -/
theorem lpC {R : Type} (F : Nat → Int64 → Int32 → xSt → R) (k : Int64 → xSt → R) (f : Nat → Int32) (N : Nat) (hN : N ≤ 1000) (v : Int64) (σ : xSt) (hs : ∀ m i w, i < N → F (m + 1) w (nI i) σ = F m (mxd w (f i)) (nI (i + 1)) σ) (he : ∀ m w, F (m + 1) w (nI N) σ = k w σ) : F FU v 0 σ = k (dg f v N) σ := by
  refine lpF (fun m (a : Int64 × Int32) => F m a.1 a.2 σ) (fun i => (dg f v i, nI i)) N _ (by omega) (fun m i hi => ?_) (fun m => ?_)
  · show F (m + 1) (dg f v i) (nI i) σ = F m (dg f v (i + 1)) (nI (i + 1)) σ
    rw [hs m i _ hi, dg_s]
  · exact he m _
theorem d7_pins (h : RR σ τ n C P T l X b) (k : xSt → Option (Unit × xSt)) : ∃ τ', RR σ τ' n C P T l X b ∧ τ'.2 = dg (fun i => tI (P i)) τ.2 (2 * n) ∧ f_X7_mixChannel_26 k FU 0 τ = k τ' := by
  have hn := h.1.1.2.1
  refine lpM (fun m w t => f_X7_mixChannel_26 k m w t) k _ (2 * n) (by omega) h (fun m i t hi ht => ?_) (fun m t ht => ?_)
  · have hM := ht.2.1.1
    refine ⟨upl t (mxd t.2 (tI (P i))), ht.upl _, rfl, ?_⟩
    show f_X7_mixChannel_26 k (m + 1) (nI i) t = _
    rw [f_X7_mixChannel_26, hM.1, show (2 : Int32) * nI n = nI (2 * n) from mulI 2 n, if_neg (xn_le hi (by omega)), gi_nI (by omega) (by omega), nI_clS (by omega), (hM.2.2 i hi).1, x7_mix, bnd_some, xn_s]
  · have hM := ht.2.1.1
    show f_X7_mixChannel_26 k (m + 1) (nI (2 * n)) t = _
    rw [f_X7_mixChannel_26, hM.1, show (2 : Int32) * nI n = nI (2 * n) from mulI 2 n, if_pos (Int32.le_refl _)]
/-! splits -/
theorem d6_split (hc : σ.1 0 7 = nI C) (hC : C < 64) (v : Int64) (k : Int64 → xSt → Option (Int64 × xSt)) : f_X6_digestChannel_83 k FU v 0 σ = k (dg (fun i => b2i (C.testBit i)) v 6) σ := by
  refine lpC (fun m v w s => f_X6_digestChannel_83 k m v w s) k _ 6 (by omega) v σ (fun m i w hi => ?_) (fun m w => ?_)
  · show f_X6_digestChannel_83 k (m + 1) w (nI i) σ = _
    rw [f_X6_digestChannel_83, if_neg (show ¬ (6 : Int32) ≤ nI i from xn_le (a := 6) hi (by omega)), e6_isSplit hc hC hi, bnd_some]
    cases C.testBit i
    · simp only [jn_def]
      rw [if_pos (show b2i false = 0 by decide), x6_mix, bnd_some, xn_s]; rfl
    · simp only [jn_def]
      rw [if_neg (show ¬ b2i true = 0 by decide), x6_mix, bnd_some, xn_s]; rfl
  · show f_X6_digestChannel_83 k (m + 1) w (nI 6) σ = _
    rw [f_X6_digestChannel_83, if_pos (show (6 : Int32) ≤ nI 6 by decide)]
theorem d7_split (h : RR σ τ n C P T l X b) (k : xSt → Option (Unit × xSt)) : ∃ τ', RR σ τ' n C P T l X b ∧ τ'.2 = dg (fun i => b2i (C.testBit i)) τ.2 6 ∧ f_X7_mixChannel_55 k FU 0 τ = k τ' := by
  have hC := h.1.2.1
  refine lpM (fun m w t => f_X7_mixChannel_55 k m w t) k _ 6 (by omega) h (fun m i t hi ht => ?_) (fun m t ht => ?_)
  · refine ⟨upl t (mxd t.2 (b2i (C.testBit i))), ht.upl _, rfl, ?_⟩
    show f_X7_mixChannel_55 k (m + 1) (nI i) t = _
    rw [f_X7_mixChannel_55, if_neg (show ¬ (6 : Int32) ≤ nI i from xn_le (a := 6) hi (by omega)), ht.2.1.2.1, bitI (by omega) (by omega), x7_mix, bnd_some, xn_s]
  · show f_X7_mixChannel_55 k (m + 1) (nI 6) t = _
    rw [f_X7_mixChannel_55, if_pos (show (6 : Int32) ≤ nI 6 by decide)]
/-! segments -/
theorem d6_seg1 (h6 : RC σ n C P T) (h7 : RM τ n C P T) {s : Nat} (v : Int64) (k : Int64 → xSt → Option (Int64 × xSt)) : f_X6_digestSegments_20 (nI s) k FU v 0 σ = k (dg (fun w => vo (f_X6_segment (nI s) (nI w) σ)) v 7) σ := by
  refine lpC (fun m v w x => f_X6_digestSegments_20 (nI s) k m v w x) k _ 7 (by omega) v σ (fun m i w hi => ?_) (fun m w => ?_)
  · show f_X6_digestSegments_20 (nI s) k (m + 1) w (nI i) σ = _
    obtain ⟨r, τ', e1, _⟩ := o_segment h6 h7 (nI s) (nI i)
    rw [f_X6_digestSegments_20, if_neg (show ¬ (6 : Int32) < nI i from xn_lt (a := 6) (by omega) (by omega)), e1, bnd_some, x6_mix, bnd_some, xn_s, vo_some]
  · show f_X6_digestSegments_20 (nI s) k (m + 1) w (nI 7) σ = _
    rw [f_X6_digestSegments_20, if_pos (show (6 : Int32) < nI 7 by decide)]
theorem d6_seg (h6 : RC σ n C P T) (h7 : RM τ n C P T) (v : Int64) (k : Int64 → xSt → Option (Int64 × xSt)) : f_X6_digestSegments_5 k FU v 0 σ = k (dg (fun i => vo (f_X6_segment (nI (i / 7)) (nI (i % 7)) σ)) v (7 * (sgs P n C 6).length)) σ := by
  have hl := h6.len
  have hn := h6.cs.1
  generalize (sgs P n C 6).length = N at hl hn
  refine lpF (fun m (a : Int64 × Int32) => f_X6_digestSegments_5 k m a.1 a.2 σ) (fun i => (dg (fun i => vo (f_X6_segment (nI (i / 7)) (nI (i % 7)) σ)) v (7 * i), nI i)) N _ (by omega) (fun m i hi => ?_) (fun m => ?_)
  · show f_X6_digestSegments_5 k (m + 1) (dg (fun i => vo (f_X6_segment (nI (i / 7)) (nI (i % 7)) σ)) v (7 * i)) (nI i) σ = f_X6_digestSegments_5 k m (dg (fun i => vo (f_X6_segment (nI (i / 7)) (nI (i % 7)) σ)) v (7 * (i + 1))) (nI (i + 1)) σ
    have e : dg (fun w => vo (f_X6_segment (nI i) (nI w) σ)) (dg (fun i => vo (f_X6_segment (nI (i / 7)) (nI (i % 7)) σ)) v (7 * i)) 7 = dg (fun i => vo (f_X6_segment (nI (i / 7)) (nI (i % 7)) σ)) v (7 * i + 7) := (dg_congr (fun j hj => by
      show vo (f_X6_segment (nI i) (nI j) σ) = vo (f_X6_segment (nI ((7 * i + j) / 7)) (nI ((7 * i + j) % 7)) σ)
      rw [show (7 * i + j) / 7 = i by omega, show (7 * i + j) % 7 = j by omega])).trans (dg_add (fun i => vo (f_X6_segment (nI (i / 7)) (nI (i % 7)) σ)) v (7 * i) 7)
    rw [f_X6_digestSegments_5, hn, if_neg (xn_le hi (by omega)), d6_seg1 h6 h7, xn_s, e, show 7 * (i + 1) = 7 * i + 7 by omega]
  · show f_X6_digestSegments_5 k (m + 1) _ (nI N) σ = _
    rw [f_X6_digestSegments_5, hn, if_pos (Int32.le_refl _)]
theorem d7_seg (h : RR σ τ n C P T l X b) (k : xSt → Option (Unit × xSt)) : ∃ τ', RR σ τ' n C P T l X b ∧ τ'.2 = dg (fun i => vo (f_X6_segment (nI (i / 7)) (nI (i % 7)) σ)) τ.2 (7 * (sgs P n C 6).length) ∧ f_X7_mixSegments_2 k FU 0 τ = k τ' := by
  have hl := h.1.len
  refine lpM (fun m w t => f_X7_mixSegments_2 k m w t) k _ (7 * (sgs P n C 6).length) (by omega) h (fun m i t hi ht => ?_) (fun m t ht => ?_)
  · obtain ⟨r, t', e1, _, e3, e4⟩ := o_segment ht.1 ht.2.1 (nI (i / 7)) (nI (i % 7))
    have e5 := e4 (i / 7) (i % 7) (by omega) (by omega) rfl rfl
    refine ⟨upl t' (mxd t'.2 r), (ht.s11 e3).upl _, ?_, ?_⟩
    · show mxd t'.2 r = _
      rw [e3.2, e1, vo_some]
    · show f_X7_mixSegments_2 k (m + 1) (nI i) t = _
      have d1 : nI i - nI i / 7 * 7 = nI (i % 7) := pk_rem (d := 7) (by omega) (by omega) (by omega)
      have d2 : nI i / 7 = nI (i / 7) := pk_div (d := 7) (by omega) (by omega) (by omega)
      rw [f_X7_mixSegments_2, ht.2.1.ms.1, show (7 : Int32) * nI (sgs P n C 6).length = nI (7 * (sgs P n C 6).length) from mulI 7 _, if_neg (xn_le hi (by omega)), d1, d2, e5, bnd_some, x7_mix, bnd_some, xn_s]
      rfl
  · show f_X7_mixSegments_2 k (m + 1) (nI (7 * (sgs P n C 6).length)) t = _
    rw [f_X7_mixSegments_2, ht.2.1.ms.1, show (7 : Int32) * nI (sgs P n C 6).length = nI (7 * (sgs P n C 6).length) from mulI 7 _, if_pos (Int32.le_refl _)]
/-! ring -/
theorem d_ring (h : RR σ τ n C P T l X b) : ∃ (f : Nat → Int32) (N : Nat), (∀ (v : Int64) (k : Int64 → xSt → Option (Int64 × xSt)), f_X6_digestSegments_55 k FU v 0 σ = k (dg f v N) σ) ∧ ∀ (τ1 : xSt) (k : xSt → Option (Unit × xSt)), RR σ τ1 n C P T l X b → ∃ τ', RR σ τ' n C P T l X b ∧ τ'.2 = dg f τ1.2 N ∧ f_X7_mixSegments_38 k FU 0 τ1 = k τ' := by
  obtain ⟨N, f, hN, c1, m1, hf, _⟩ := R_ring h.1 h.2.1
  have hu : ∀ t, RR σ t n C P T l X b → t.1 0 11 = nI N ∧ ∀ k, k < N → t.1 8 k = nI (f k) := fun t ht => by
    obtain ⟨N', f', hN', c1', m1', hf', _⟩ := R_ring ht.1 ht.2.1
    have eN : N' = N := (nI_eq (by omega) (by omega)).mp (c1'.symm.trans c1)
    subst eN
    exact ⟨m1', fun k hk => (hf' k hk).2.trans ((hf' k hk).1.symm.trans (hf k hk).1)⟩
  refine ⟨fun i => nI (f i), N, fun v k => ?_, fun τ1 k h1 => ?_⟩
  · refine lpC (fun m v w x => f_X6_digestSegments_55 k m v w x) k _ N (by omega) v σ (fun m i w hi => ?_) (fun m w => ?_)
    · show f_X6_digestSegments_55 k (m + 1) w (nI i) σ = _
      have e1 : f_X6_ring (nI i) σ = some (nI (f i), σ) := by
        rw [f_X6_ring, jn_def, if_neg (show ¬ nI i < (0 : Int32) from xn_lt (b := 0) (Nat.zero_le i) (by omega)), c1, if_pos (xy_lt hi (by omega)), gi_nI (by omega) (by omega), nI_clS (by omega), (hf i hi).1]
      rw [f_X6_digestSegments_55, c1, if_neg (xn_le hi (by omega)), e1, bnd_some, x6_mix, bnd_some, xn_s]
    · show f_X6_digestSegments_55 k (m + 1) w (nI N) σ = _
      rw [f_X6_digestSegments_55, c1, if_pos (Int32.le_refl _)]
  · refine lpM (fun m w t => f_X7_mixSegments_38 k m w t) k _ N (by omega) h1 (fun m i t hi ht => ?_) (fun m t ht => ?_)
    · refine ⟨upl t (mxd t.2 (nI (f i))), ht.upl _, rfl, ?_⟩
      show f_X7_mixSegments_38 k (m + 1) (nI i) t = _
      rw [f_X7_mixSegments_38, (hu t ht).1, if_neg (xn_le hi (by omega)), gi_nI (by omega) (by omega), nI_clS (by omega), (hu t ht).2 i hi, x7_mix, bnd_some, xn_s]
    · show f_X7_mixSegments_38 k (m + 1) (nI N) t = _
      rw [f_X7_mixSegments_38, (hu t ht).1, if_pos (Int32.le_refl _)]
/-! zones -/
theorem z_at (h6 : RC σ n C P T) {j : Nat} (h1 : j < cnt (zoneB (xs (gN (sgs P n C 6)) (gF (sgs P n C 6)) (gL (sgs P n C 6)) (sgs P n C 6).length) n) n) : ∃ r, f_X6_zone (nI j) σ = some (r, σ) ∧ ∀ t, RM t n C P T → f_X7_zones (nI j) t = some (r, t) := by
  have hn := h6.1.2.1
  obtain ⟨z1, z2, z3⟩ := h6.2.2.2.2.2.1
  have hc := cnt_le (zoneB (xs (gN (sgs P n C 6)) (gF (sgs P n C 6)) (gL (sgs P n C 6)) (sgs P n C 6).length) n) n
  obtain ⟨c, k1, k2, k3⟩ := cnt_at h1
  have y1 := z3 c k1 k2
  rw [k3] at y1
  refine ⟨nI (xs (gN (sgs P n C 6)) (gF (sgs P n C 6)) (gL (sgs P n C 6)) (sgs P n C 6).length c), ?_, fun t ht => ?_⟩
  · rw [f_X6_zone, jn_def, if_neg (show ¬ nI j < (0 : Int32) from xn_lt (b := 0) (Nat.zero_le j) (by omega)), z2, if_pos (xy_lt h1 (by omega)), gi_nI (by omega) (by omega), nI_clS (by omega), y1]
  · have y2 := e7_zones_at ht.1 ht.ms k1 k2
    rwa [k3] at y2
theorem d6_zone (h6 : RC σ n C P T) (v : Int64) (k : Int64 → xSt → Option (Int64 × xSt)) : f_X6_digestSegments_87 k FU v 0 σ = k (dg (fun i => vo (f_X6_zone (nI i) σ)) v (cnt (zoneB (xs (gN (sgs P n C 6)) (gF (sgs P n C 6)) (gL (sgs P n C 6)) (sgs P n C 6).length) n) n)) σ := by
  have hn := h6.1.2.1
  have z2 := h6.2.2.2.2.2.1.2.1
  have hc := cnt_le (zoneB (xs (gN (sgs P n C 6)) (gF (sgs P n C 6)) (gL (sgs P n C 6)) (sgs P n C 6).length) n) n
  refine lpC (fun m v w x => f_X6_digestSegments_87 k m v w x) k _ _ (by omega) v σ (fun m i w hi => ?_) (fun m w => ?_)
  · show f_X6_digestSegments_87 k (m + 1) w (nI i) σ = _
    obtain ⟨r, e1, _⟩ := z_at h6 hi
    rw [f_X6_digestSegments_87, z2, if_neg (xn_le hi (by omega)), e1, bnd_some, x6_mix, bnd_some, xn_s, vo_some]
  · show f_X6_digestSegments_87 k (m + 1) w (nI _) σ = _
    rw [f_X6_digestSegments_87, z2, if_pos (Int32.le_refl _)]
theorem d7_zone (h : RR σ τ n C P T l X b) (k : xSt → Option (Unit × xSt)) : ∃ τ', RR σ τ' n C P T l X b ∧ τ'.2 = dg (fun i => vo (f_X6_zone (nI i) σ)) τ.2 (cnt (zoneB (xs (gN (sgs P n C 6)) (gF (sgs P n C 6)) (gL (sgs P n C 6)) (sgs P n C 6).length) n) n) ∧ f_X7_mixSegments_71 (nI (cnt (zoneB (xs (gN (sgs P n C 6)) (gF (sgs P n C 6)) (gL (sgs P n C 6)) (sgs P n C 6).length) n) n)) k FU 0 τ = k τ' := by
  have hn := h.1.1.2.1
  have hc := cnt_le (zoneB (xs (gN (sgs P n C 6)) (gF (sgs P n C 6)) (gL (sgs P n C 6)) (sgs P n C 6).length) n) n
  refine lpM (fun m w t => f_X7_mixSegments_71 (nI (cnt (zoneB (xs (gN (sgs P n C 6)) (gF (sgs P n C 6)) (gL (sgs P n C 6)) (sgs P n C 6).length) n) n)) k m w t) k _ _ (by omega) h (fun m i t hi ht => ?_) (fun m t ht => ?_)
  · obtain ⟨r, e1, e2⟩ := z_at h.1 hi
    refine ⟨upl t (mxd t.2 r), ht.upl _, ?_, ?_⟩
    · show mxd t.2 r = _
      rw [e1, vo_some]
    · show f_X7_mixSegments_71 _ k (m + 1) (nI i) t = _
      rw [f_X7_mixSegments_71, if_neg (xn_le hi (by omega)), e2 t ht.2.1, bnd_some, x7_mix, bnd_some, xn_s]
  · show f_X7_mixSegments_71 _ k (m + 1) (nI _) t = _
    rw [f_X7_mixSegments_71, if_pos (Int32.le_refl _)]
end
