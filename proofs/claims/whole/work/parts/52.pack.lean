/-! ===== packing ===== -/
/-- a loop that ends early where p doesn't hold -/
theorem lpA {R : Type} (F : Nat → Int32 → R) (p : Nat → Bool) (N : Nat) (hN : N ≤ 1000000) (o0 o1 : R) (hs : ∀ m i, i < N → F (m + 1) (nI i) = if p i then F m (nI (i + 1)) else o0) (he : ∀ m, F (m + 1) (nI N) = o1) : F FU (nI 0) = if alB p N then o1 else o0 := by
  have hl := fst_le (fun t => !p t) N
  have hno : ∀ k, k < fst (fun t => !p t) N → p k = true := fun k hk => by
    have := fst_no (fun t => !p t) N k hk
    simpa using this
  have hyes : fst (fun t => !p t) N < N → p (fst (fun t => !p t) N) = false := fun hh => by
    have := fst_yes (fun t => !p t) N hh
    simpa using this
  generalize fst (fun t => !p t) N = e at hl hno hyes
  refine lpE (fun m (a : Int32) => F m a) (fun i => nI i) N _ e hl hN (fun m i hi => ?_) (fun m => ?_)
  · try dsimp only
    rw [hs m i (by omega), if_pos (hno i hi)]
  · try dsimp only
    rcases Nat.lt_or_ge e N with h1 | h1
    · have ha : alB p N = false := by
        rw [Bool.eq_false_iff]
        intro hc
        rw [alB_iff] at hc
        have h2 := hyes h1
        rw [hc e h1] at h2
        exact absurd h2 (by decide)
      rw [hs m e h1, hyes h1, ha]
      rfl
    · have he' : e = N := by omega
      subst he'
      have ha : alB p e = true := by
        rw [alB_iff]
        intro t ht
        exact hno t ht
      rw [he m, ha, if_pos rfl]
def mcP (T ne fi la B : Nat → Nat) (r s k : Nat) : Bool := !(decide (T k = r + 1) && met ne fi la k s) && (!(B k).testBit s || (!decide (T k = 0) && !decide (r + 1 ≤ T k)))
def mc (T ne fi la B : Nat → Nat) (N r s : Nat) : Bool := decide (T s = 0) && alB (mcP T ne fi la B r s) N
def nxS (T ne fi la B : Nat → Nat) (N r s b : Nat) : Nat := if mc T ne fi la B N r s && (decide (b = 0) || !decide (fi (b - 1) ≤ fi s)) then s + 1 else b
def nx (T ne fi la B : Nat → Nat) (N r : Nat) : Nat → Nat := fo (nxS T ne fi la B N r) 0
def stT (T : Nat → Nat) (s v : Nat) : Nat → Nat := fun t => if t = s then v else T t
def itr (T ne fi la B : Nat → Nat) (N r : Nat) : Nat → Nat → Nat := fo (fun _ T => if nx T ne fi la B N r N = 0 then T else stT T (nx T ne fi la B N r N - 1) (r + 1)) T
theorem nx_le {T ne fi la B : Nat → Nat} {N r : Nat} : ∀ i, nx T ne fi la B N r i ≤ i
  | 0 => Nat.le_refl 0
  | i + 1 => by
    have := nx_le (T := T) (ne := ne) (fi := fi) (la := la) (B := B) (N := N) (r := r) i
    show nxS T ne fi la B N r i (nx T ne fi la B N r i) ≤ i + 1
    unfold nxS
    split <;> omega
theorem nx_mc {T ne fi la B : Nat → Nat} {N r : Nat} : ∀ i, nx T ne fi la B N r i ≠ 0 → mc T ne fi la B N r (nx T ne fi la B N r i - 1) = true
  | 0, h => absurd rfl h
  | i + 1, h => by
    have ih := nx_mc (T := T) (ne := ne) (fi := fi) (la := la) (B := B) (N := N) (r := r) i
    have e : nx T ne fi la B N r (i + 1) = nxS T ne fi la B N r i (nx T ne fi la B N r i) := rfl
    rw [e] at h ⊢
    unfold nxS at h ⊢
    by_cases q : (mc T ne fi la B N r i && (decide (nx T ne fi la B N r i = 0) || !decide (fi (nx T ne fi la B N r i - 1) ≤ fi i))) = true
    · rw [if_pos q]
      rw [Bool.and_eq_true] at q
      exact q.1
    · rw [if_neg q] at h ⊢
      exact ih h
theorem cnt_stT {T : Nat → Nat} {s v : Nat} (h0 : T s = 0) (hv : v ≠ 0) : ∀ {N : Nat}, s < N → cnt (fun t => !decide (stT T s v t = 0)) N = cnt (fun t => !decide (T t = 0)) N + 1
  | 0, h => absurd h (Nat.not_lt_zero _)
  | N + 1, h => by
    have e1 : cnt (fun t => !decide (stT T s v t = 0)) (N + 1) = cnt (fun t => !decide (stT T s v t = 0)) N + (if (!decide (stT T s v N = 0)) then 1 else 0) := rfl
    have e2 : cnt (fun t => !decide (T t = 0)) (N + 1) = cnt (fun t => !decide (T t = 0)) N + (if (!decide (T N = 0)) then 1 else 0) := rfl
    rw [e1, e2]
    rcases Nat.lt_or_ge s N with h1 | h1
    · rw [cnt_stT h0 hv h1]
      have : stT T s v N = T N := if_neg (by omega)
      rw [this]
      omega
    · have hsN : s = N := by omega
      subst hsN
      have e3 : stT T s v s = v := if_pos rfl
      have e4 : cnt (fun t => !decide (stT T s v t = 0)) s = cnt (fun t => !decide (T t = 0)) s := cnt_congr (fun i hi => by
        have : stT T s v i = T i := if_neg (by omega)
        rw [this])
      rw [e3, e4, h0]
      simp [hv]
section
variable {T ne fi la B : Nat → Nat} {N r : Nat}
theorem itr_succ (j : Nat) : itr T ne fi la B N r (j + 1) = if nx (itr T ne fi la B N r j) ne fi la B N r N = 0 then itr T ne fi la B N r j else stT (itr T ne fi la B N r j) (nx (itr T ne fi la B N r j) ne fi la B N r N - 1) (r + 1) := rfl
theorem itr_cnt : ∀ m, (∀ j, j < m → nx (itr T ne fi la B N r j) ne fi la B N r N ≠ 0) → m ≤ cnt (fun t => !decide (itr T ne fi la B N r m t = 0)) N
  | 0, _ => Nat.zero_le _
  | m + 1, h => by
    have ih := itr_cnt m (fun j hj => h j (by omega))
    have hm := h m (by omega)
    rw [itr_succ, if_neg hm]
    have hmc := nx_mc N hm
    rw [mc, Bool.and_eq_true, decide_eq_true_eq] at hmc
    have hl := nx_le (T := itr T ne fi la B N r m) (ne := ne) (fi := fi) (la := la) (B := B) (N := N) (r := r) N
    rw [cnt_stT hmc.1 (by omega) (by omega)]
    omega
theorem cnt_full {p : Nat → Bool} : ∀ {N : Nat}, N ≤ cnt p N → ∀ i, i < N → p i = true
  | 0, _, i, h => absurd h (Nat.not_lt_zero i)
  | N + 1, h, i, hi => by
    have e : cnt p (N + 1) = cnt p N + (if p N then 1 else 0) := rfl
    have hl := cnt_le p N
    rw [e] at h
    by_cases q : p N = true
    · rw [if_pos q] at h
      rcases Nat.lt_or_ge i N with h1 | h1
      · exact cnt_full (by omega) i h1
      · have : i = N := by omega
        subst this; exact q
    · rw [if_neg q] at h; omega
/-- the row is done after e steps -/
def rwE (T ne fi la B : Nat → Nat) (N r : Nat) : Nat := fst (fun j => decide (nx (itr T ne fi la B N r j) ne fi la B N r N = 0)) N
theorem rwE_le : rwE T ne fi la B N r ≤ N := fst_le _ N
theorem rwE_no {j : Nat} (h : j < rwE T ne fi la B N r) : nx (itr T ne fi la B N r j) ne fi la B N r N ≠ 0 := by
  have := fst_no (fun j => decide (nx (itr T ne fi la B N r j) ne fi la B N r N = 0)) N j h
  simpa using this
theorem rwE_end : nx (itr T ne fi la B N r (rwE T ne fi la B N r)) ne fi la B N r N = 0 := by
  rcases Nat.lt_or_ge (rwE T ne fi la B N r) N with h | h
  · have := fst_yes (fun j => decide (nx (itr T ne fi la B N r j) ne fi la B N r N = 0)) N h
    have h2 : decide (nx (itr T ne fi la B N r (rwE T ne fi la B N r)) ne fi la B N r N = 0) = true := this
    simpa using h2
  · have he : rwE T ne fi la B N r = N := by have := rwE_le (T := T) (ne := ne) (fi := fi) (la := la) (B := B) (N := N) (r := r); omega
    rw [he]
    have hc := itr_cnt (T := T) (ne := ne) (fi := fi) (la := la) (B := B) (N := N) (r := r) N (fun j hj => rwE_no (by omega))
    refine Classical.byContradiction fun hn => ?_
    have hm := nx_mc N hn
    have hl := nx_le (T := itr T ne fi la B N r N) (ne := ne) (fi := fi) (la := la) (B := B) (N := N) (r := r) N
    rw [mc, Bool.and_eq_true, decide_eq_true_eq] at hm
    have := cnt_full hc _ (show nx (itr T ne fi la B N r N) ne fi la B N r N - 1 < N by omega)
    simp [hm.1] at this
def row (T ne fi la B : Nat → Nat) (N r : Nat) : Nat → Nat := itr T ne fi la B N r (rwE T ne fi la B N r)
theorem itr_le (h : ∀ s, T s ≤ 14) (hr : r < 14) : ∀ j s, itr T ne fi la B N r j s ≤ 14
  | 0, s => h s
  | j + 1, s => by
    rw [itr_succ]
    split
    · exact itr_le h hr j s
    · show (if s = _ then r + 1 else _) ≤ 14
      split
      · omega
      · exact itr_le h hr j s
theorem itr_out (h : ∀ s, N ≤ s → T s = 0) : ∀ j s, N ≤ s → itr T ne fi la B N r j s = 0
  | 0, s, hs => h s hs
  | j + 1, s, hs => by
    rw [itr_succ]
    split
    · exact itr_out h j s hs
    · rename_i hn
      have hl := nx_le (T := itr T ne fi la B N r j) (ne := ne) (fi := fi) (la := la) (B := B) (N := N) (r := r) N
      show (if s = _ then r + 1 else _) = 0
      rw [if_neg (by omega)]
      exact itr_out h j s hs
def pkd (ne fi la B : Nat → Nat) (N : Nat) : Nat → Nat → Nat := fo (fun r T => row T ne fi la B N r) (fun _ => 0)
theorem pkd_le : ∀ j, j ≤ 14 → ∀ s, pkd ne fi la B N j s ≤ 14
  | 0, _, s => Nat.zero_le _
  | j + 1, hj, s => itr_le (pkd_le j (by omega)) (by omega) _ s
theorem pkd_out : ∀ j s, N ≤ s → pkd ne fi la B N j s = 0
  | 0, s, _ => rfl
  | j + 1, s, hs => itr_out (pkd_out j) _ s hs
end
/-! the reference -/
section
variable {σ : xSt} {n N : Nat} {P T ne fi la B F : Nat → Nat}
theorem e7_mayCome (h : MS σ N ne fi la) (hB : MB σ N B) (hT : MT σ N T) {s r : Nat} (hs : s < N) (hr : r < 14) : f_X7_mayCome (nI s) (nI r) σ = some (b2i (mc T ne fi la B N r s), σ) := by
  have hN := h.2.1
  have h0 := h.1
  obtain ⟨s1, s2⟩ := hT s hs
  have loop : ∀ b : Bool, f_X7_mayCome_19 (nI s) (nI r) (fun e70 s71 => gb e70 (some (e70, s71))) FU (b2i b) (nI 0) σ = some (b2i (b && alB (mcP T ne fi la B r s) N), σ) := by
    intro b
    have e0 : b2i b = b2i (b && alB (mcP T ne fi la B r s) 0) := by show b2i b = b2i (b && true); rw [Bool.and_true]
    rw [e0]
    refine lpF (fun m (a : Int32 × Int32) => f_X7_mayCome_19 (nI s) (nI r) (fun e70 s71 => gb e70 (some (e70, s71))) m a.1 a.2 σ) (fun i => (b2i (b && alB (mcP T ne fi la B r s) i), nI i)) N _ (by omega) (fun m i hi => ?_) (fun m => ?_)
    · have c0 : ¬ N ≤ i := by omega
      obtain ⟨t1, t2⟩ := hT i hi
      obtain ⟨b1, b2⟩ := hB i hi
      have e : alB (mcP T ne fi la B r s) (i + 1) = (alB (mcP T ne fi la B r s) i && mcP T ne fi la B r s i) := rfl
      rw [e, mcP]
      simp (disch := omega) only [lit_nI, nI_leS, nI_ltS, nI_eqS, nI_clS, nI_add, mulI, tI_leS, tI_ltS, tI_eqS, tI_m1, nI_m1, tI_eqn, tI_eqn2, tI_ltn, tI_nle, tI_len, tI_nlt, gi_nI, gi_lit, gz_nI, bnd_some, jn_def, vb_def, if_true, if_false, b2i_0, b2i_1, b2i_t, b2i_f, gb_b2i, gb_n0, gb_n1, bitN, bit0N, sh1N, orI, andI, e7_within, ite_self, n10, n01, Bool.true_eq_false, Bool.false_eq_true, f_X7_mayCome_19, h0, c0, t1, b1, e7_isMet h hi hs, e7_isBit]
      rcases Bool.eq_false_or_eq_true (alB (mcP T ne fi la B r s) i) with b3 | b3 <;> cases b <;> rcases Classical.propComplete (T i = r + 1) with q1 | q1 <;> rcases Bool.eq_false_or_eq_true (met ne fi la i s) with b4 | b4 <;> rcases Bool.eq_false_or_eq_true ((B i).testBit s) with b5 | b5 <;> rcases Classical.propComplete (T i = 0) with q2 | q2 <;> rcases Classical.propComplete (r + 1 ≤ T i) with q3 | q3 <;> simp [b3, b4, b5, q1, q2, q3, b2i_t, b2i_f, gb_n0, gb_n1, n10, n01, nI_eqS]
    · simp (disch := omega) only [lit_nI, nI_leS, nI_ltS, nI_eqS, nI_clS, nI_add, mulI, tI_leS, tI_ltS, tI_eqS, tI_m1, nI_m1, tI_eqn, tI_eqn2, tI_ltn, tI_nle, tI_len, tI_nlt, gi_nI, gi_lit, gz_nI, bnd_some, jn_def, vb_def, if_true, if_false, b2i_0, b2i_1, b2i_t, b2i_f, gb_b2i, gb_n0, gb_n1, bitN, bit0N, sh1N, orI, andI, e7_within, ite_self, n10, n01, Bool.true_eq_false, Bool.false_eq_true, f_X7_mayCome_19, h0, Nat.le_refl]
  have l1 := loop true
  have l0 := loop false
  rw [b2i_t] at l1
  rw [b2i_f] at l0
  rw [mc]
  rcases Classical.propComplete (T s = 0) with q1 | q1 <;> simp (disch := omega) only [lit_nI, nI_leS, nI_ltS, nI_eqS, nI_clS, nI_add, mulI, tI_leS, tI_ltS, tI_eqS, tI_m1, nI_m1, tI_eqn, tI_eqn2, tI_ltn, tI_nle, tI_len, tI_nlt, gi_nI, gi_lit, gz_nI, bnd_some, jn_def, vb_def, if_true, if_false, b2i_0, b2i_1, b2i_t, b2i_f, gb_b2i, gb_n0, gb_n1, bitN, bit0N, sh1N, orI, andI, e7_within, ite_self, n10, n01, Bool.true_eq_false, Bool.false_eq_true, f_X7_mayCome, s1, q1, l1, l0] <;> simp
theorem e7_nextFor (h : MS σ N ne fi la) (hB : MB σ N B) (hT : MT σ N T) {r : Nat} (hr : r < 14) : f_X7_nextFor (nI r) σ = some (tI (nx T ne fi la B N r N), σ) := by
  have hN := h.2.1
  have h0 := h.1
  rw [f_X7_nextFor]
  refine lpF (fun m (a : Int32 × Int32) => f_X7_nextFor_4 (nI r) (fun e21 s22 => some (e21, s22)) m a.1 a.2 σ) (fun i => (tI (nx T ne fi la B N r i), nI i)) N _ (by omega) (fun m i hi => ?_) (fun m => ?_)
  · have c0 : ¬ N ≤ i := by omega
    have hm := e7_mayCome h hB hT hi hr
    have hle := nx_le (T := T) (ne := ne) (fi := fi) (la := la) (B := B) (N := N) (r := r) i
    have e : nx T ne fi la B N r (i + 1) = nxS T ne fi la B N r i (nx T ne fi la B N r i) := rfl
    rw [e, nxS]
    generalize nx T ne fi la B N r i = x at *
    obtain ⟨⟨g1, g2, g3⟩, g4, g5, g6⟩ := h.2.2 i hi
    cases x with
    | zero =>
      simp (disch := omega) only [lit_nI, nI_leS, nI_ltS, nI_eqS, nI_clS, nI_add, mulI, tI_leS, tI_ltS, tI_eqS, tI_m1, nI_m1, tI_eqn, tI_eqn2, tI_ltn, tI_nle, tI_len, tI_nlt, gi_nI, gi_lit, gz_nI, bnd_some, jn_def, vb_def, if_true, if_false, b2i_0, b2i_1, b2i_t, b2i_f, gb_b2i, gb_n0, gb_n1, bitN, bit0N, sh1N, orI, andI, e7_within, ite_self, n10, n01, Bool.true_eq_false, Bool.false_eq_true, f_X7_nextFor_4, h0, c0, hm, g2, tI_0, eq_self]
      rcases Bool.eq_false_or_eq_true (mc T ne fi la B N r i) with b1 | b1 <;> simp [b1, b2i_t, b2i_f, gb_n0, gb_n1, n10, n01, nI_eqS, tI_0, tI_succ]
    | succ y =>
      obtain ⟨⟨k1, k2, k3⟩, k4, k5, k6⟩ := h.2.2 y (by omega)
      have e1 : y + 1 - 1 = y := by omega
      have e2 : ¬ y + 1 = 0 := by omega
      rw [e1]
      simp (disch := omega) only [lit_nI, nI_leS, nI_ltS, nI_eqS, nI_clS, nI_add, mulI, tI_leS, tI_ltS, tI_eqS, tI_m1, nI_m1, tI_eqn, tI_eqn2, tI_ltn, tI_nle, tI_len, tI_nlt, gi_nI, gi_lit, gz_nI, bnd_some, jn_def, vb_def, if_true, if_false, b2i_0, b2i_1, b2i_t, b2i_f, gb_b2i, gb_n0, gb_n1, bitN, bit0N, sh1N, orI, andI, e7_within, ite_self, n10, n01, Bool.true_eq_false, Bool.false_eq_true, f_X7_nextFor_4, h0, c0, hm, g2, k2, tI_succ]
      rcases Bool.eq_false_or_eq_true (mc T ne fi la B N r i) with b1 | b1 <;> rcases Classical.propComplete (fi y ≤ fi i) with q1 | q1 <;> simp [b1, q1, b2i_t, b2i_f, gb_n0, gb_n1, n10, n01, nI_eqS, tI_succ]
  · simp (disch := omega) only [lit_nI, nI_leS, nI_ltS, nI_eqS, nI_clS, nI_add, mulI, tI_leS, tI_ltS, tI_eqS, tI_m1, nI_m1, tI_eqn, tI_eqn2, tI_ltn, tI_nle, tI_len, tI_nlt, gi_nI, gi_lit, gz_nI, bnd_some, jn_def, vb_def, if_true, if_false, b2i_0, b2i_1, b2i_t, b2i_f, gb_b2i, gb_n0, gb_n1, bitN, bit0N, sh1N, orI, andI, e7_within, ite_self, n10, n01, Bool.true_eq_false, Bool.false_eq_true, f_X7_nextFor_4, h0, Nat.le_refl]
theorem MS.f5 {σ' : xSt} (h : MS σ N ne fi la) (hf : Fr (sR 5) σ σ') : MS σ' N ne fi la := by
  refine ⟨(hf.1 0 4 rfl).trans h.1, h.2.1, fun s hs => ⟨⟨?_, ?_, ?_⟩, (h.2.2 s hs).2⟩⟩
  · exact (hf.1 2 s rfl).trans (h.2.2 s hs).1.1
  · exact (hf.1 3 s rfl).trans (h.2.2 s hs).1.2.1
  · exact (hf.1 4 s rfl).trans (h.2.2 s hs).1.2.2
theorem MB.f5 {σ' : xSt} (h : MB σ N B) (hf : Fr (sR 5) σ σ') : MB σ' N B := fun s hs => ⟨(hf.1 6 s rfl).trans (h s hs).1, (h s hs).2⟩
theorem MT.set (hT : MT σ N T) {s v : Nat} (hv : v ≤ 14) : MT (up2 σ 5 s (tI v)) N (stT T s v) := by
  intro t ht
  by_cases q : t = s
  · subst q
    rw [up2_same, stT, if_pos rfl]
    exact ⟨rfl, hv⟩
  · rw [up2_place σ 5 5 (tI v) q, stT, if_neg q]
    exact hT t ht
theorem e7_row (h : MS σ N ne fi la) (hB : MB σ N B) (hT : MT σ N T) {r : Nat} (hr : r < 14) (k : xSt → Option (Int32 × xSt)) : ∃ σ', MT σ' N (row T ne fi la B N r) ∧ Fr (sR 5) σ σ' ∧ bnd (f_X7_nextFor (nI r) σ) (fun r5 s6 => f_X7_pack_36 (nI r) k FU r5 s6) = k σ' := by
  have hN := h.2.1
  have hle := rwE_le (T := T) (ne := ne) (fi := fi) (la := la) (B := B) (N := N) (r := r)
  rw [e7_nextFor h hB hT hr, bnd_some]
  obtain ⟨⟨y, τ⟩, ⟨i1, i2, i3⟩, i4⟩ := lpI (fun q (x : Int32 × xSt) => f_X7_pack_36 (nI r) k q x.1 x.2) (fun i y => y.1 = tI (nx (itr T ne fi la B N r i) ne fi la B N r N) ∧ MT y.2 N (itr T ne fi la B N r i) ∧ Fr (sR 5) σ y.2) (rwE T ne fi la B N r) (fun y => k y.2) (by omega) (fun q i y hi hI => by
    obtain ⟨y1, τ⟩ := y
    obtain ⟨i1, i2, i3⟩ := hI
    dsimp only at i1 i2 i3 ⊢
    subst i1
    have hn := rwE_no hi
    have hl := nx_le (T := itr T ne fi la B N r i) (ne := ne) (fi := fi) (la := la) (B := B) (N := N) (r := r) N
    have es := itr_succ (T := T) (ne := ne) (fi := fi) (la := la) (B := B) (N := N) (r := r) i
    rw [if_neg hn] at es
    obtain ⟨y, hy⟩ : ∃ y, nx (itr T ne fi la B N r i) ne fi la B N r N = y + 1 := ⟨nx (itr T ne fi la B N r i) ne fi la B N r N - 1, by omega⟩
    rw [hy] at es hl ⊢
    have hset : MT (up2 τ 5 y (nI r)) N (itr T ne fi la B N r (i + 1)) := by
      rw [es, ← tI_succ]
      exact i2.set (by omega)
    have f1 : Fr (sR 5) τ (up2 τ 5 y (nI r)) := Fr.up (by simp [sR])
    have f2 := i3.tr f1
    have hnx := e7_nextFor (h.f5 f2) (hB.f5 f2) hset hr
    refine ⟨(tI (nx (itr T ne fi la B N r (i + 1)) ne fi la B N r N), up2 τ 5 y (nI r)), ⟨rfl, hset, f2⟩, ?_⟩
    simp (disch := omega) only [lit_nI, nI_leS, nI_ltS, nI_eqS, nI_clS, nI_add, mulI, tI_leS, tI_ltS, tI_eqS, tI_m1, nI_m1, tI_eqn, tI_eqn2, tI_ltn, tI_nle, tI_len, tI_nlt, gi_nI, gi_lit, gz_nI, bnd_some, jn_def, vb_def, if_true, if_false, b2i_0, b2i_1, b2i_t, b2i_f, gb_b2i, gb_n0, gb_n1, bitN, bit0N, sh1N, orI, andI, e7_within, ite_self, n10, n01, Bool.true_eq_false, Bool.false_eq_true, f_X7_pack_36, tI_succ, hnx]) (fun q y hI => by
    obtain ⟨y1, τ⟩ := y
    obtain ⟨i1, i2, i3⟩ := hI
    dsimp only at i1 i2 i3 ⊢
    subst i1
    rw [rwE_end, tI_0]
    simp (disch := omega) only [lit_nI, nI_leS, nI_ltS, nI_eqS, nI_clS, nI_add, mulI, tI_leS, tI_ltS, tI_eqS, tI_m1, nI_m1, tI_eqn, tI_eqn2, tI_ltn, tI_nle, tI_len, tI_nlt, gi_nI, gi_lit, gz_nI, bnd_some, jn_def, vb_def, if_true, if_false, b2i_0, b2i_1, b2i_t, b2i_f, gb_b2i, gb_n0, gb_n1, bitN, bit0N, sh1N, orI, andI, e7_within, ite_self, n10, n01, Bool.true_eq_false, Bool.false_eq_true, f_X7_pack_36, eq_self]) (tI (nx T ne fi la B N r N), σ) ⟨rfl, hT, Fr.rf⟩
  exact ⟨τ, i2, i3, i4⟩
theorem e7_packRows (h : MS σ N ne fi la) (hB : MB σ N B) (hT : MT σ N (fun _ => 0)) (k : xSt → Option (Int32 × xSt)) : ∃ σ', MT σ' N (pkd ne fi la B N 14) ∧ Fr (sR 5) σ σ' ∧ f_X7_pack_24 k FU (nI 0) σ = k σ' := by
  obtain ⟨⟨y, τ⟩, ⟨i1, i2, i3⟩, i4⟩ := lpI (fun q (x : Int32 × xSt) => f_X7_pack_24 k q x.1 x.2) (fun i y => y.1 = nI i ∧ MT y.2 N (pkd ne fi la B N i) ∧ Fr (sR 5) σ y.2) 14 (fun y => k y.2) (by omega) (fun q i y hi hI => by
    obtain ⟨y1, τ⟩ := y
    obtain ⟨i1, i2, i3⟩ := hI
    dsimp only at i1 i2 i3 ⊢
    subst i1
    obtain ⟨τ', j1, j2, j3⟩ := e7_row (h.f5 i3) (hB.f5 i3) i2 hi (fun s10 => f_X7_pack_24 k q (nI i + 1) s10)
    refine ⟨(nI (i + 1), τ'), ⟨rfl, j1, i3.tr j2⟩, ?_⟩
    have c0 : ¬ (14 : Int32) ≤ nI i := xn_le (a := 14) (by omega) (by omega)
    rw [f_X7_pack_24, if_neg c0]
    refine Eq.trans j3 ?_
    rw [xn_s]) (fun q y hI => by
    obtain ⟨y1, τ⟩ := y
    obtain ⟨i1, i2, i3⟩ := hI
    dsimp only at i1 i2 i3 ⊢
    subst i1
    rw [f_X7_pack_24, if_pos (show (14 : Int32) ≤ nI 14 by decide)]) (nI 0, σ) ⟨rfl, hT, Fr.rf⟩
  exact ⟨τ, i2, i3, i4⟩
end
/-! the class -/
section
variable {σ : xSt} {n N : Nat} {P T ne fi la B F : Nat → Nat}
theorem e1_isFree (h : CS σ 5 N ne fi la) (hB : CB σ 5 N B) (hT : CTr σ N T) {s r : Nat} (hs : s < N) (hr : r < 14) : f_X1_isFree (nI s) (nI r) σ = some (b2i (alB (mcP T ne fi la B r s) N), σ) := by
  have hN := h.2.1
  have h0 := h.1
  rw [f_X1_isFree]
  have key := lpA (fun m (a : Int32) => f_X1_isFree_3 (nI s) (nI r) (fun s40 => gb 1 (some (1, s40))) m a σ) (mcP T ne fi la B r s) N (by omega) (some (nI 0, σ)) (some (nI 1, σ)) (fun m i hi => by
    have c0 : ¬ N ≤ i := by omega
    obtain ⟨t1, t2⟩ := hT.1 i (by omega)
    rw [mcP]
    simp (disch := omega) only [lit_nI, nI_leS, nI_ltS, nI_eqS, nI_clS, nI_add, mulI, tI_leS, tI_ltS, tI_eqS, tI_m1, nI_m1, tI_eqn, tI_eqn2, tI_ltn, tI_nle, tI_len, tI_nlt, gi_nI, gi_lit, gz_nI, bnd_some, jn_def, vb_def, if_true, if_false, b2i_0, b2i_1, b2i_t, b2i_f, gb_b2i, gb_n0, gb_n1, bitN, bit0N, sh1N, orI, andI, e7_within, ite_self, n10, n01, Bool.true_eq_false, Bool.false_eq_true, f_X1_isFree_3, h0, c0, t1, e3_overlap h hi hs, e3_isAbove hN hB hi hs]
    rcases Classical.propComplete (T i = r + 1) with q1 | q1 <;> rcases Bool.eq_false_or_eq_true (met ne fi la i s) with b4 | b4 <;> rcases Bool.eq_false_or_eq_true ((B i).testBit s) with b5 | b5 <;> rcases Classical.propComplete (T i = 0) with q2 | q2 <;> rcases Classical.propComplete (r + 1 ≤ T i) with q3 | q3 <;> simp [b4, b5, q1, q2, q3, b2i_t, b2i_f, gb_n0, gb_n1, n10, n01, nI_eqS]) (fun m => by
    simp (disch := omega) only [lit_nI, nI_leS, nI_ltS, nI_eqS, nI_clS, nI_add, mulI, tI_leS, tI_ltS, tI_eqS, tI_m1, nI_m1, tI_eqn, tI_eqn2, tI_ltn, tI_nle, tI_len, tI_nlt, gi_nI, gi_lit, gz_nI, bnd_some, jn_def, vb_def, if_true, if_false, b2i_0, b2i_1, b2i_t, b2i_f, gb_b2i, gb_n0, gb_n1, bitN, bit0N, sh1N, orI, andI, e7_within, ite_self, n10, n01, Bool.true_eq_false, Bool.false_eq_true, f_X1_isFree_3, h0, Nat.le_refl])
  refine Eq.trans key ?_
  cases alB (mcP T ne fi la B r s) N <;> rfl
theorem e1_leftmost (h : CS σ 5 N ne fi la) (hB : CB σ 5 N B) (hT : CTr σ N T) {r : Nat} (hr : r < 14) : f_X1_leftmost (nI r) σ = some (tI (nx T ne fi la B N r N), σ) := by
  have hN := h.2.1
  have h0 := h.1
  rw [f_X1_leftmost]
  refine lpF (fun m (a : Int32 × Int32) => f_X1_leftmost_5 (nI r) (fun e21 s22 => some (e21, s22)) m a.1 a.2 σ) (fun i => (tI (nx T ne fi la B N r i), nI i)) N _ (by omega) (fun m i hi => ?_) (fun m => ?_)
  · have c0 : ¬ N ≤ i := by omega
    have hm := e1_isFree h hB hT hi hr
    have hle := nx_le (T := T) (ne := ne) (fi := fi) (la := la) (B := B) (N := N) (r := r) i
    have e : nx T ne fi la B N r (i + 1) = nxS T ne fi la B N r i (nx T ne fi la B N r i) := rfl
    rw [e, nxS, mc]
    generalize nx T ne fi la B N r i = x at *
    obtain ⟨⟨g1, g2, g3⟩, g4, g5, g6⟩ := h.2.2 i hi
    obtain ⟨t1, t2⟩ := hT.1 i (by omega)
    change σ.1 7 i = _ at g2
    cases x with
    | zero =>
      simp (disch := omega) only [lit_nI, nI_leS, nI_ltS, nI_eqS, nI_clS, nI_add, mulI, tI_leS, tI_ltS, tI_eqS, tI_m1, nI_m1, tI_eqn, tI_eqn2, tI_ltn, tI_nle, tI_len, tI_nlt, gi_nI, gi_lit, gz_nI, bnd_some, jn_def, vb_def, if_true, if_false, b2i_0, b2i_1, b2i_t, b2i_f, gb_b2i, gb_n0, gb_n1, bitN, bit0N, sh1N, orI, andI, e7_within, ite_self, n10, n01, Bool.true_eq_false, Bool.false_eq_true, f_X1_leftmost_5, h0, c0, hm, g2, t1, tI_0, eq_self]
      rcases Bool.eq_false_or_eq_true (alB (mcP T ne fi la B r i) N) with b1 | b1 <;> rcases Classical.propComplete (T i = 0) with q2 | q2 <;> simp [b1, q2, b2i_t, b2i_f, gb_n0, gb_n1, n10, n01, nI_eqS, tI_0, tI_succ]
    | succ y =>
      obtain ⟨⟨k1, k2, k3⟩, k4, k5, k6⟩ := h.2.2 y (by omega)
      change σ.1 7 y = _ at k2
      have e1 : y + 1 - 1 = y := by omega
      have e2 : ¬ y + 1 = 0 := by omega
      rw [e1]
      simp (disch := omega) only [lit_nI, nI_leS, nI_ltS, nI_eqS, nI_clS, nI_add, mulI, tI_leS, tI_ltS, tI_eqS, tI_m1, nI_m1, tI_eqn, tI_eqn2, tI_ltn, tI_nle, tI_len, tI_nlt, gi_nI, gi_lit, gz_nI, bnd_some, jn_def, vb_def, if_true, if_false, b2i_0, b2i_1, b2i_t, b2i_f, gb_b2i, gb_n0, gb_n1, bitN, bit0N, sh1N, orI, andI, e7_within, ite_self, n10, n01, Bool.true_eq_false, Bool.false_eq_true, f_X1_leftmost_5, h0, c0, hm, g2, k2, t1, tI_succ]
      rcases Bool.eq_false_or_eq_true (alB (mcP T ne fi la B r i) N) with b1 | b1 <;> rcases Classical.propComplete (fi y ≤ fi i) with q1 | q1 <;> rcases Classical.propComplete (T i = 0) with q2 | q2 <;> simp [b1, q1, q2, b2i_t, b2i_f, gb_n0, gb_n1, n10, n01, nI_eqS, tI_succ]
  · simp (disch := omega) only [lit_nI, nI_leS, nI_ltS, nI_eqS, nI_clS, nI_add, mulI, tI_leS, tI_ltS, tI_eqS, tI_m1, nI_m1, tI_eqn, tI_eqn2, tI_ltn, tI_nle, tI_len, tI_nlt, gi_nI, gi_lit, gz_nI, bnd_some, jn_def, vb_def, if_true, if_false, b2i_0, b2i_1, b2i_t, b2i_f, gb_b2i, gb_n0, gb_n1, bitN, bit0N, sh1N, orI, andI, e7_within, ite_self, n10, n01, Bool.true_eq_false, Bool.false_eq_true, f_X1_leftmost_5, h0, Nat.le_refl]
theorem CS.f29 {σ' : xSt} (h : CS σ 5 N ne fi la) (hf : Fr (sR 29) σ σ') : CS σ' 5 N ne fi la := by
  refine ⟨(hf.1 5 8 rfl).trans h.1, h.2.1, fun s hs => ⟨⟨?_, ?_, ?_⟩, (h.2.2 s hs).2⟩⟩
  · exact (hf.1 6 s rfl).trans (h.2.2 s hs).1.1
  · exact (hf.1 7 s rfl).trans (h.2.2 s hs).1.2.1
  · exact (hf.1 8 s rfl).trans (h.2.2 s hs).1.2.2
theorem CB.f29 {σ' : xSt} (h : CB σ 5 N B) (hf : Fr (sR 29) σ σ') : CB σ' 5 N B := fun s hs => ⟨(hf.1 9 s rfl).trans (h s hs).1, (h s hs).2⟩
theorem CTr.set (hT : CTr σ N T) {s v : Nat} (hs : s < N) (hv : v ≤ 14) : CTr (up2 σ 29 s (tI v)) N (stT T s v) := by
  refine ⟨fun t ht => ?_, fun t h1 h2 => ?_⟩
  · by_cases q : t = s
    · subst q
      rw [up2_same, stT, if_pos rfl]
      exact ⟨rfl, hv⟩
    · rw [up2_place σ 29 29 (tI v) q, stT, if_neg q]
      exact hT.1 t ht
  · rw [stT, if_neg (by omega)]
    exact hT.2 t h1 h2
theorem e1_fillTrack (h : CS σ 5 N ne fi la) (hB : CB σ 5 N B) (hT : CTr σ N T) {r : Nat} (hr : r < 14) : ∃ σ', f_X1_fillTrack (nI r) σ = some ((), σ') ∧ CTr σ' N (row T ne fi la B N r) ∧ Fr (sR 29) σ σ' := by
  have hN := h.2.1
  have hle := rwE_le (T := T) (ne := ne) (fi := fi) (la := la) (B := B) (N := N) (r := r)
  rw [f_X1_fillTrack]
  obtain ⟨⟨y, τ⟩, ⟨i1, i2, i3⟩, i4⟩ := lpI (fun q (x : Int32 × xSt) => f_X1_fillTrack_2 (nI r) (fun s4 => some ((), s4)) q x.1 x.2) (fun i y => y.1 = nI i ∧ CTr y.2 N (itr T ne fi la B N r i) ∧ Fr (sR 29) σ y.2) (rwE T ne fi la B N r) (fun y => some ((), y.2)) (by omega) (fun q i y hi hI => by
    obtain ⟨y1, τ⟩ := y
    obtain ⟨i1, i2, i3⟩ := hI
    dsimp only at i1 i2 i3 ⊢
    subst i1
    have hn := rwE_no hi
    have hl := nx_le (T := itr T ne fi la B N r i) (ne := ne) (fi := fi) (la := la) (B := B) (N := N) (r := r) N
    have es := itr_succ (T := T) (ne := ne) (fi := fi) (la := la) (B := B) (N := N) (r := r) i
    rw [if_neg hn] at es
    have hnx := e1_leftmost (h.f29 i3) (hB.f29 i3) i2 hr
    obtain ⟨y, hy⟩ : ∃ y, nx (itr T ne fi la B N r i) ne fi la B N r N = y + 1 := ⟨nx (itr T ne fi la B N r i) ne fi la B N r N - 1, by omega⟩
    rw [hy] at es hl hnx
    rw [tI_succ] at hnx
    have hset : CTr (up2 τ 29 y (nI r)) N (itr T ne fi la B N r (i + 1)) := by
      rw [es, ← tI_succ]
      exact i2.set (by omega) (by omega)
    have f1 : Fr (sR 29) τ (up2 τ 29 y (nI r)) := Fr.up (by simp [sR])
    have f2 := i3.tr f1
    have h0 := (h.f29 i3).1
    have c0 : ¬ N ≤ i := by omega
    refine ⟨(nI (i + 1), up2 τ 29 y (nI r)), ⟨rfl, hset, f2⟩, ?_⟩
    simp (disch := omega) only [lit_nI, nI_leS, nI_ltS, nI_eqS, nI_clS, nI_add, mulI, tI_leS, tI_ltS, tI_eqS, tI_m1, nI_m1, tI_eqn, tI_eqn2, tI_ltn, tI_nle, tI_len, tI_nlt, gi_nI, gi_lit, gz_nI, bnd_some, jn_def, vb_def, if_true, if_false, b2i_0, b2i_1, b2i_t, b2i_f, gb_b2i, gb_n0, gb_n1, bitN, bit0N, sh1N, orI, andI, e7_within, ite_self, n10, n01, Bool.true_eq_false, Bool.false_eq_true, f_X1_fillTrack_2, h0, c0, hnx]) (fun q y hI => by
    obtain ⟨y1, τ⟩ := y
    obtain ⟨i1, i2, i3⟩ := hI
    dsimp only at i1 i2 i3 ⊢
    subst i1
    have h0 := (h.f29 i3).1
    have hnx := e1_leftmost (h.f29 i3) (hB.f29 i3) i2 hr
    rw [rwE_end, tI_0] at hnx
    rcases Classical.propComplete (N ≤ rwE T ne fi la B N r) with q1 | q1 <;> simp (disch := omega) only [lit_nI, nI_leS, nI_ltS, nI_eqS, nI_clS, nI_add, mulI, tI_leS, tI_ltS, tI_eqS, tI_m1, nI_m1, tI_eqn, tI_eqn2, tI_ltn, tI_nle, tI_len, tI_nlt, gi_nI, gi_lit, gz_nI, bnd_some, jn_def, vb_def, if_true, if_false, b2i_0, b2i_1, b2i_t, b2i_f, gb_b2i, gb_n0, gb_n1, bitN, bit0N, sh1N, orI, andI, e7_within, ite_self, n10, n01, Bool.true_eq_false, Bool.false_eq_true, f_X1_fillTrack_2, h0, q1, hnx, eq_self]) (nI 0, σ) ⟨rfl, hT, Fr.rf⟩
  exact ⟨τ, i4, i2, i3⟩
theorem e1_fillFromLeft (h : CS σ 5 N ne fi la) (hB : CB σ 5 N B) : ∃ σ', f_X1_fillFromLeft σ = some ((), σ') ∧ CTr σ' N (pkd ne fi la B N 14) ∧ Fr (sR 29) σ σ' := by
  obtain ⟨τ0, a1, a2, a3⟩ := e1_takeAllAway (σ := σ)
  have t0 : CTr τ0 N (pkd ne fi la B N 0) := ⟨fun s hs => ⟨a2 s hs, Nat.zero_le _⟩, fun s _ _ => rfl⟩
  rw [f_X1_fillFromLeft, a1, bnd_some]
  obtain ⟨⟨y, τ⟩, ⟨i1, i2, i3⟩, i4⟩ := lpI (fun q (x : Int32 × xSt) => f_X1_fillFromLeft_6 (fun s5 => some ((), s5)) q x.1 x.2) (fun i y => y.1 = nI i ∧ CTr y.2 N (pkd ne fi la B N i) ∧ Fr (sR 29) σ y.2) 14 (fun y => some ((), y.2)) (by omega) (fun q i y hi hI => by
    obtain ⟨y1, τ⟩ := y
    obtain ⟨i1, i2, i3⟩ := hI
    dsimp only at i1 i2 i3 ⊢
    subst i1
    obtain ⟨τ', j1, j2, j3⟩ := e1_fillTrack (h.f29 i3) (hB.f29 i3) i2 hi
    refine ⟨(nI (i + 1), τ'), ⟨rfl, j2, i3.tr j3⟩, ?_⟩
    have c0 : ¬ (14 : Int32) ≤ nI i := xn_le (a := 14) (by omega) (by omega)
    rw [f_X1_fillFromLeft_6, if_neg c0, j1, bnd_some, xn_s]) (fun q y hI => by
    obtain ⟨y1, τ⟩ := y
    obtain ⟨i1, i2, i3⟩ := hI
    dsimp only at i1 i2 i3 ⊢
    subst i1
    rw [f_X1_fillFromLeft_6, if_pos (show (14 : Int32) ≤ nI 14 by decide)]) (nI 0, τ0) ⟨rfl, t0, a3⟩
  exact ⟨τ, i4, i2, i3⟩
end
