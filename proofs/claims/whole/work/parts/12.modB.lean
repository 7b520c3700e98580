section
variable {σ : xSt} {n N : Nat} {P T ne fi la B F : Nat → Nat}
/-- a ring: some segment is far from itself -/
theorem e7_isRing (h0 : σ.1 0 4 = nI N) (hN : N ≤ 14) (hF : MF σ N F) : f_X7_isRing σ = some (b2i (exB (fun s => (F s).testBit s) N), σ) := by
  rw [f_X7_isRing]
  refine lpF (fun m (a : Int32 × Int32) => f_X7_isRing_4 _ m a.1 a.2 σ) (fun i => (b2i (exB (fun s => (F s).testBit s) i), nI i)) N _ (by omega) (fun m i hi => ?_) (fun m => ?_)
  · have c0 : ¬ N ≤ i := by omega
    obtain ⟨f1, f2⟩ := hF i hi
    simp (disch := omega) only [lit_nI, nI_leS, nI_ltS, nI_eqS, nI_clS, nI_add, mulI, tI_leS, tI_ltS, tI_eqS, tI_m1, nI_m1, tI_eqn, tI_eqn2, tI_ltn, tI_nle, tI_len, tI_nlt, gi_nI, gi_lit, gz_nI, bnd_some, jn_def, vb_def, if_true, if_false, b2i_0, b2i_1, b2i_t, b2i_f, gb_b2i, gb_n0, gb_n1, bitN, bit0N, sh1N, orI, andI, e7_within, ite_self, n10, n01, Bool.true_eq_false, Bool.false_eq_true, f_X7_isRing_4, h0, c0, f1, e7_isBit, exB, fo]
    generalize fo (fun s b => b || (F s).testBit s) false i = bb
    cases bb <;> cases (F i).testBit i <;> simp [b2i_t, b2i_f, n10, nI_eqS]
  · simp (disch := omega) only [lit_nI, nI_leS, nI_ltS, nI_eqS, nI_clS, nI_add, mulI, tI_leS, tI_ltS, tI_eqS, tI_m1, nI_m1, tI_eqn, tI_eqn2, tI_ltn, tI_nle, tI_len, tI_nlt, gi_nI, gi_lit, gz_nI, bnd_some, jn_def, vb_def, if_true, if_false, b2i_0, b2i_1, b2i_t, b2i_f, gb_b2i, gb_n0, gb_n1, bitN, bit0N, sh1N, orI, andI, e7_within, ite_self, n10, n01, Bool.true_eq_false, Bool.false_eq_true, f_X7_isRing_4, h0, Nat.le_refl]
theorem e7_withTrack (h0 : σ.1 0 4 = nI N) (hN : N ≤ 14) (hT : MT σ N T) : f_X7_withTrack σ = some (nI (cnt (fun s => !decide (T s = 0)) N), σ) := by
  rw [f_X7_withTrack]
  refine lpF (fun m (a : Int32 × Int32) => f_X7_withTrack_4 _ m a.1 a.2 σ) (fun i => (nI (cnt (fun s => !decide (T s = 0)) i), nI i)) N _ (by omega) (fun m i hi => ?_) (fun m => ?_)
  · have c0 : ¬ N ≤ i := by omega
    obtain ⟨f1, f2⟩ := hT i hi
    simp (disch := omega) only [lit_nI, nI_leS, nI_ltS, nI_eqS, nI_clS, nI_add, mulI, tI_leS, tI_ltS, tI_eqS, tI_m1, nI_m1, tI_eqn, tI_eqn2, tI_ltn, tI_nle, tI_len, tI_nlt, gi_nI, gi_lit, gz_nI, bnd_some, jn_def, vb_def, if_true, if_false, b2i_0, b2i_1, b2i_t, b2i_f, gb_b2i, gb_n0, gb_n1, bitN, bit0N, sh1N, orI, andI, e7_within, ite_self, n10, n01, Bool.true_eq_false, Bool.false_eq_true, f_X7_withTrack_4, h0, c0, f1, cnt, fo]
    by_cases q : T i = 0 <;> simp [q]
  · simp (disch := omega) only [lit_nI, nI_leS, nI_ltS, nI_eqS, nI_clS, nI_add, mulI, tI_leS, tI_ltS, tI_eqS, tI_m1, nI_m1, tI_eqn, tI_eqn2, tI_ltn, tI_nle, tI_len, tI_nlt, gi_nI, gi_lit, gz_nI, bnd_some, jn_def, vb_def, if_true, if_false, b2i_0, b2i_1, b2i_t, b2i_f, gb_b2i, gb_n0, gb_n1, bitN, bit0N, sh1N, orI, andI, e7_within, ite_self, n10, n01, Bool.true_eq_false, Bool.false_eq_true, f_X7_withTrack_4, h0, Nat.le_refl]
theorem e7_depth (h0 : σ.1 0 4 = nI N) (hN : N ≤ 14) (hT : MT σ N T) : f_X7_depth σ = some (nI (mxN T N), σ) := by
  rw [f_X7_depth]
  refine lpF (fun m (a : Int32 × Int32) => f_X7_depth_4 _ m a.1 a.2 σ) (fun i => (tI (mxN T i), nI i)) N _ (by omega) (fun m i hi => ?_) (fun m => ?_)
  · have c0 : ¬ N ≤ i := by omega
    obtain ⟨f1, f2⟩ := hT i hi
    have hm : mxN T i ≤ 14 := mxN_le (fun j hj => (hT j (by omega)).2)
    simp (disch := omega) only [lit_nI, nI_leS, nI_ltS, nI_eqS, nI_clS, nI_add, mulI, tI_leS, tI_ltS, tI_eqS, tI_m1, nI_m1, tI_eqn, tI_eqn2, tI_ltn, tI_nle, tI_len, tI_nlt, gi_nI, gi_lit, gz_nI, bnd_some, jn_def, vb_def, if_true, if_false, b2i_0, b2i_1, b2i_t, b2i_f, gb_b2i, gb_n0, gb_n1, bitN, bit0N, sh1N, orI, andI, e7_within, ite_self, n10, n01, Bool.true_eq_false, Bool.false_eq_true, f_X7_depth_4, h0, c0, f1]
    have e : mxN T (i + 1) = if T i ≤ mxN T i then mxN T i else T i := rfl
    rw [e]
    by_cases q : T i ≤ mxN T i <;> simp [q]
  · simp (disch := omega) only [lit_nI, nI_leS, nI_ltS, nI_eqS, nI_clS, nI_add, mulI, tI_leS, tI_ltS, tI_eqS, tI_m1, nI_m1, tI_eqn, tI_eqn2, tI_ltn, tI_nle, tI_len, tI_nlt, gi_nI, gi_lit, gz_nI, bnd_some, jn_def, vb_def, if_true, if_false, b2i_0, b2i_1, b2i_t, b2i_f, gb_b2i, gb_n0, gb_n1, bitN, bit0N, sh1N, orI, andI, e7_within, ite_self, n10, n01, Bool.true_eq_false, Bool.false_eq_true, f_X7_depth_4, h0, Nat.le_refl]
    congr 2
    show nI (mxN T N) - nI 1 + nI 1 = _
    rw [Int32.sub_add_cancel]
/-- two segments go together -/
def fine (T ne fi la B : Nat → Nat) (s t : Nat) : Bool := ((!decide (T s = T t) || !met ne fi la s t) && (!(B s).testBit t || decide (T s < T t))) && (!(B t).testBit s || decide (T t < T s))
theorem e7_isFine (h : MS σ N ne fi la) (hB : MB σ N B) {T : Nat → Nat} {s t : Nat} (hs : s < N) (ht : t < N) (ts : σ.1 5 s = tI (T s) ∧ T s ≤ 14) (tt : σ.1 5 t = tI (T t) ∧ T t ≤ 14) : f_X7_isFine (nI s) (nI t) σ = some (b2i (fine T ne fi la B s t), σ) := by
  have hN := h.2.1
  obtain ⟨b1, b2⟩ := hB s hs
  obtain ⟨b3, b4⟩ := hB t ht
  obtain ⟨t1, t2⟩ := ts
  obtain ⟨t3, t4⟩ := tt
  simp (disch := omega) only [lit_nI, nI_leS, nI_ltS, nI_eqS, nI_clS, nI_add, mulI, tI_leS, tI_ltS, tI_eqS, tI_m1, nI_m1, tI_eqn, tI_eqn2, tI_ltn, tI_nle, tI_len, tI_nlt, gi_nI, gi_lit, gz_nI, bnd_some, jn_def, vb_def, if_true, if_false, b2i_0, b2i_1, b2i_t, b2i_f, gb_b2i, gb_n0, gb_n1, bitN, bit0N, sh1N, orI, andI, e7_within, ite_self, n10, n01, Bool.true_eq_false, Bool.false_eq_true, f_X7_isFine, t1, t3, b1, b3, e7_isMet h hs ht, e7_isBit, fine]
  by_cases q1 : T s = T t <;> cases met ne fi la s t <;> cases (B s).testBit t <;> cases (B t).testBit s <;> by_cases q2 : T t ≤ T s <;> by_cases q3 : T s ≤ T t <;> first | omega | (have e2 : (T s < T t) = ¬ T t ≤ T s := propext (by omega); have e3 : (T t < T s) = ¬ T s ≤ T t := propext (by omega); simp [q1, q2, q3, e2, e3, b2i_t, b2i_f, n10, nI_eqS, gb_n0, gb_n1]; done) | (have e2 : (T s < T t) = ¬ T t ≤ T s := propext (by omega); have e3 : (T t < T s) = ¬ T s ≤ T t := propext (by omega); simp_all [b2i_t, b2i_f, n10, nI_eqS, gb_n0, gb_n1])
theorem e7_flat (h : MS σ N ne fi la) (hT : MT σ N T) {r c : Nat} (hr : r < 100) (hc : c < 100) : f_X7_flat (nI r) (nI c) σ = some (nI (msk ne (fun s => decide (T s = r + 1) && wi fi la s c) N), σ) := by
  have hN := h.2.1
  have h0 := h.1
  rw [f_X7_flat]
  refine lpF (fun m (a : Int32 × Int32) => f_X7_flat_5 _ _ _ m a.1 a.2 σ) (fun i => (nI (msk ne (fun s => decide (T s = r + 1) && wi fi la s c) i), nI i)) N _ (by omega) (fun m i hi => ?_) (fun m => ?_)
  · have c0 : ¬ N ≤ i := by omega
    obtain ⟨f1, f2⟩ := hT i hi
    obtain ⟨⟨h4, h5, h6⟩, h7, h8, h9⟩ := h.2.2 i hi
    simp (disch := omega) only [lit_nI, nI_leS, nI_ltS, nI_eqS, nI_clS, nI_add, mulI, tI_leS, tI_ltS, tI_eqS, tI_m1, nI_m1, tI_eqn, tI_eqn2, tI_ltn, tI_nle, tI_len, tI_nlt, gi_nI, gi_lit, gz_nI, bnd_some, jn_def, vb_def, if_true, if_false, b2i_0, b2i_1, b2i_t, b2i_f, gb_b2i, gb_n0, gb_n1, bitN, bit0N, sh1N, orI, andI, e7_within, ite_self, n10, n01, Bool.true_eq_false, Bool.false_eq_true, f_X7_flat_5, h0, c0, f1, h4, e7_isWithin h hi hc]
    have e : msk ne (fun s => decide (T s = r + 1) && wi fi la s c) (i + 1) = msk ne (fun s => decide (T s = r + 1) && wi fi la s c) i ||| (if (decide (T i = r + 1) && wi fi la i c) then 2 ^ ne i else 0) := rfl
    rw [e]
    by_cases q : T i = r + 1 <;> cases wi fi la i c <;> simp [q]
  · simp (disch := omega) only [lit_nI, nI_leS, nI_ltS, nI_eqS, nI_clS, nI_add, mulI, tI_leS, tI_ltS, tI_eqS, tI_m1, nI_m1, tI_eqn, tI_eqn2, tI_ltn, tI_nle, tI_len, tI_nlt, gi_nI, gi_lit, gz_nI, bnd_some, jn_def, vb_def, if_true, if_false, b2i_0, b2i_1, b2i_t, b2i_f, gb_b2i, gb_n0, gb_n1, bitN, bit0N, sh1N, orI, andI, e7_within, ite_self, n10, n01, Bool.true_eq_false, Bool.false_eq_true, f_X7_flat_5, h0, Nat.le_refl]
theorem e7_netsIn (h : MS σ N ne fi la) {c : Nat} (hc : c < 100) : f_X7_netsIn (nI c) σ = some (nI (msk ne (fun s => wi fi la s c) N), σ) := by
  have hN := h.2.1
  have h0 := h.1
  rw [f_X7_netsIn]
  refine lpF (fun m (a : Int32 × Int32) => f_X7_netsIn_4 _ _ m a.1 a.2 σ) (fun i => (nI (msk ne (fun s => wi fi la s c) i), nI i)) N _ (by omega) (fun m i hi => ?_) (fun m => ?_)
  · have c0 : ¬ N ≤ i := by omega
    obtain ⟨⟨h4, h5, h6⟩, h7, h8, h9⟩ := h.2.2 i hi
    simp (disch := omega) only [lit_nI, nI_leS, nI_ltS, nI_eqS, nI_clS, nI_add, mulI, tI_leS, tI_ltS, tI_eqS, tI_m1, nI_m1, tI_eqn, tI_eqn2, tI_ltn, tI_nle, tI_len, tI_nlt, gi_nI, gi_lit, gz_nI, bnd_some, jn_def, vb_def, if_true, if_false, b2i_0, b2i_1, b2i_t, b2i_f, gb_b2i, gb_n0, gb_n1, bitN, bit0N, sh1N, orI, andI, e7_within, ite_self, n10, n01, Bool.true_eq_false, Bool.false_eq_true, f_X7_netsIn_4, h0, c0, h4, e7_isWithin h hi hc]
    have e : msk ne (fun s => wi fi la s c) (i + 1) = msk ne (fun s => wi fi la s c) i ||| (if wi fi la i c then 2 ^ ne i else 0) := rfl
    rw [e]
    cases wi fi la i c <;> simp
  · simp (disch := omega) only [lit_nI, nI_leS, nI_ltS, nI_eqS, nI_clS, nI_add, mulI, tI_leS, tI_ltS, tI_eqS, tI_m1, nI_m1, tI_eqn, tI_eqn2, tI_ltn, tI_nle, tI_len, tI_nlt, gi_nI, gi_lit, gz_nI, bnd_some, jn_def, vb_def, if_true, if_false, b2i_0, b2i_1, b2i_t, b2i_f, gb_b2i, gb_n0, gb_n1, bitN, bit0N, sh1N, orI, andI, e7_within, ite_self, n10, n01, Bool.true_eq_false, Bool.false_eq_true, f_X7_netsIn_4, h0, Nat.le_refl]
/-- the crossing set of a column -/
def xs (ne fi la : Nat → Nat) (N c : Nat) : Nat := msk ne (fun s => wi fi la s c) N
theorem xs_lt (h : MS σ N ne fi la) (c : Nat) : xs ne fi la N c < 64 := msk_lt (fun s hs => (h.2.2 s hs).2.1)
theorem e7_density (hP : MP σ n P) (h : MS σ N ne fi la) : f_X7_density σ = some (nI (mxN (fun c => pc (xs ne fi la N c) 16) n), σ) := by
  have hn := hP.2.1
  have h0 := hP.1
  obtain ⟨g, hg⟩ : ∃ g : Nat → Nat, (fun c => pc (xs ne fi la N c) 16) = g := ⟨_, rfl⟩
  have hgl : ∀ c, g c ≤ 16 := fun c => by rw [← hg]; exact pc_le _ 16
  have hgs : ∀ c, f_X7_size (nI (xs ne fi la N c)) σ = some (nI (g c), σ) := fun c => by rw [← hg]; exact e7_size (big64 (xs_lt h c)) σ
  have hx : ∀ c, c < 100 → f_X7_netsIn (nI c) σ = some (nI (xs ne fi la N c), σ) := fun c hc => e7_netsIn h hc
  rw [hg, f_X7_density]
  refine lpF (fun m (a : Int32 × Int32) => f_X7_density_4 _ m a.1 a.2 σ) (fun i => (nI (mxN g i), nI i)) n _ (by omega) (fun m i hi => ?_) (fun m => ?_)
  · have c0 : ¬ n ≤ i := by omega
    have m2 := hgl i
    have m3 : mxN g i ≤ 16 := mxN_le (fun j _ => hgl j)
    simp (disch := omega) only [lit_nI, nI_leS, nI_ltS, nI_eqS, nI_clS, nI_add, mulI, tI_leS, tI_ltS, tI_eqS, tI_m1, nI_m1, tI_eqn, tI_eqn2, tI_ltn, tI_nle, tI_len, tI_nlt, gi_nI, gi_lit, gz_nI, bnd_some, jn_def, vb_def, if_true, if_false, b2i_0, b2i_1, b2i_t, b2i_f, gb_b2i, gb_n0, gb_n1, bitN, bit0N, sh1N, orI, andI, e7_within, ite_self, n10, n01, Bool.true_eq_false, Bool.false_eq_true, f_X7_density_4, h0, c0, hx i (by omega), hgs]
    have e : mxN g (i + 1) = if g i ≤ mxN g i then mxN g i else g i := rfl
    rw [e]
    by_cases q' : g i ≤ mxN g i <;> simp [q']
  · simp (disch := omega) only [lit_nI, nI_leS, nI_ltS, nI_eqS, nI_clS, nI_add, mulI, tI_leS, tI_ltS, tI_eqS, tI_m1, nI_m1, tI_eqn, tI_eqn2, tI_ltn, tI_nle, tI_len, tI_nlt, gi_nI, gi_lit, gz_nI, bnd_some, jn_def, vb_def, if_true, if_false, b2i_0, b2i_1, b2i_t, b2i_f, gb_b2i, gb_n0, gb_n1, bitN, bit0N, sh1N, orI, andI, e7_within, ite_self, n10, n01, Bool.true_eq_false, Bool.false_eq_true, f_X7_density_4, h0, Nat.le_refl]
end
