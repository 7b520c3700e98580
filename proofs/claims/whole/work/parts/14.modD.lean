section
variable {σ : xSt} {n N : Nat} {P T ne fi la B F : Nat → Nat}
/-! validity -/
def valB (T ne fi la B : Nat → Nat) (N : Nat) : Bool := alB (fun s => !decide (T s = 0) && alB (fun t => fine T ne fi la B t s) s) N
theorem met_sym (ne fi la : Nat → Nat) (s t : Nat) : met ne fi la s t = met ne fi la t s := by
  simp only [met]
  rw [show decide (ne s = ne t) = decide (ne t = ne s) by rw [Bool.eq_iff_iff, decide_eq_true_eq, decide_eq_true_eq]; exact eq_comm, Bool.and_comm (decide (fi s ≤ la t))]
theorem fine_sym (T ne fi la B : Nat → Nat) (s t : Nat) : fine T ne fi la B s t = fine T ne fi la B t s := by
  simp only [fine]
  rw [show decide (T s = T t) = decide (T t = T s) by rw [Bool.eq_iff_iff, decide_eq_true_eq, decide_eq_true_eq]; exact eq_comm, met_sym ne fi la s t]
  rw [Bool.and_assoc, Bool.and_assoc, Bool.and_comm (!(B s).testBit t || decide (T s < T t))]
theorem fine_self {T ne fi la B : Nat → Nat} {s : Nat} (h : (B s).testBit s = false) : fine T ne fi la B s s = true := by simp [fine, met, h]
theorem val_iff : valB T ne fi la B N = true ↔ ∀ s, s < N → T s ≠ 0 ∧ ∀ t, t < s → fine T ne fi la B t s = true := by
  rw [valB, alB_iff]
  refine forall_congr' fun s => imp_congr Iff.rfl ?_
  simp only [Bool.and_eq_true, Bool.not_eq_true', decide_eq_false_iff_not, alB_iff, ne_eq]
theorem e7_fits (h : MS σ N ne fi la) (hB : MB σ N B) (hT : MT σ N T) (hs : ∀ s, s < N → (B s).testBit s = false) : f_X7_fits σ = some (b2i (valB T ne fi la B N), σ) := by
  have hN := h.2.1
  have h0 := h.1
  have inner : ∀ (s : Nat) (b : Bool) (k : Int32 → xSt → Option (Int32 × xSt)), s < N → f_X7_fits_34 (nI s) k FU (b2i b) (nI 0) σ = k (b2i (b && alB (fun t => fine T ne fi la B s t) N)) σ := by
    intro s b k hs'
    have e0 : b2i b = b2i (b && alB (fun t => fine T ne fi la B s t) 0) := by show b2i b = b2i (b && true); rw [Bool.and_true]
    rw [e0]
    refine lpF (fun m (a : Int32 × Int32) => f_X7_fits_34 (nI s) k m a.1 a.2 σ) (fun i => (b2i (b && alB (fun t => fine T ne fi la B s t) i), nI i)) N _ (by omega) (fun m i hi => ?_) (fun m => ?_)
    · have c0 : ¬ N ≤ i := by omega
      simp (disch := omega) only [lit_nI, nI_leS, nI_ltS, nI_eqS, nI_clS, nI_add, mulI, tI_leS, tI_ltS, tI_eqS, tI_m1, nI_m1, tI_eqn, tI_eqn2, tI_ltn, tI_nle, tI_len, tI_nlt, gi_nI, gi_lit, gz_nI, bnd_some, jn_def, vb_def, if_true, if_false, b2i_0, b2i_1, b2i_t, b2i_f, gb_b2i, gb_n0, gb_n1, bitN, bit0N, sh1N, orI, andI, e7_within, ite_self, n10, n01, Bool.true_eq_false, Bool.false_eq_true, f_X7_fits_34, h0, c0, e7_isFine h hB hs' hi (hT s hs') (hT i hi)]
      have e : alB (fun t => fine T ne fi la B s t) (i + 1) = (alB (fun t => fine T ne fi la B s t) i && fine T ne fi la B s i) := rfl
      rw [e]
      rcases Bool.eq_false_or_eq_true (alB (fun t => fine T ne fi la B s t) i) with b1 | b1 <;> rcases Bool.eq_false_or_eq_true (fine T ne fi la B s i) with b2 | b2 <;> cases b <;> simp [b1, b2, b2i_t, b2i_f, gb_n0, gb_n1, n10, n01, nI_eqS]
    · simp (disch := omega) only [lit_nI, nI_leS, nI_ltS, nI_eqS, nI_clS, nI_add, mulI, tI_leS, tI_ltS, tI_eqS, tI_m1, nI_m1, tI_eqn, tI_eqn2, tI_ltn, tI_nle, tI_len, tI_nlt, gi_nI, gi_lit, gz_nI, bnd_some, jn_def, vb_def, if_true, if_false, b2i_0, b2i_1, b2i_t, b2i_f, gb_b2i, gb_n0, gb_n1, bitN, bit0N, sh1N, orI, andI, e7_within, ite_self, n10, n01, Bool.true_eq_false, Bool.false_eq_true, f_X7_fits_34, h0, Nat.le_refl]
  have fin : valB T ne fi la B N = alB (fun s => !decide (T s = 0) && alB (fun t => fine T ne fi la B s t) N) N := by
    rw [Bool.eq_iff_iff, val_iff, alB_iff]
    constructor
    · intro hv s hs'
      simp only [Bool.and_eq_true, Bool.not_eq_true', decide_eq_false_iff_not, alB_iff]
      refine ⟨(hv s hs').1, fun t ht => ?_⟩
      rcases Nat.lt_trichotomy s t with h1 | h1 | h1
      · exact (hv t ht).2 s h1
      · subst h1; exact fine_self (hs s hs')
      · rw [fine_sym]; exact (hv s hs').2 t h1
    · intro hv s hs'
      have h1 := hv s hs'
      simp only [Bool.and_eq_true, Bool.not_eq_true', decide_eq_false_iff_not, alB_iff] at h1
      exact ⟨h1.1, fun t ht => by rw [fine_sym]; exact h1.2 t (by omega)⟩
  rw [fin, f_X7_fits]
  refine lpF (fun m (a : Int32 × Int32) => f_X7_fits_4 _ m a.1 a.2 σ) (fun i => (b2i (alB (fun s => !decide (T s = 0) && alB (fun t => fine T ne fi la B s t) N) i), nI i)) N _ (by omega) (fun m i hi => ?_) (fun m => ?_)
  · have c0 : ¬ N ≤ i := by omega
    obtain ⟨f1, f2⟩ := hT i hi
    have i1 := fun k => inner i true k hi
    have i0 := fun k => inner i false k hi
    rw [b2i_t] at i1
    rw [b2i_f] at i0
    simp (disch := omega) only [lit_nI, nI_leS, nI_ltS, nI_eqS, nI_clS, nI_add, mulI, tI_leS, tI_ltS, tI_eqS, tI_m1, nI_m1, tI_eqn, tI_eqn2, tI_ltn, tI_nle, tI_len, tI_nlt, gi_nI, gi_lit, gz_nI, bnd_some, jn_def, vb_def, if_true, if_false, b2i_0, b2i_1, b2i_t, b2i_f, gb_b2i, gb_n0, gb_n1, bitN, bit0N, sh1N, orI, andI, e7_within, ite_self, n10, n01, Bool.true_eq_false, Bool.false_eq_true, f_X7_fits_4, h0, c0, f1, i0, i1]
    have e : alB (fun s => !decide (T s = 0) && alB (fun t => fine T ne fi la B s t) N) (i + 1) = (alB (fun s => !decide (T s = 0) && alB (fun t => fine T ne fi la B s t) N) i && (!decide (T i = 0) && alB (fun t => fine T ne fi la B i t) N)) := rfl
    rw [e]
    rcases Bool.eq_false_or_eq_true (alB (fun s => !decide (T s = 0) && alB (fun t => fine T ne fi la B s t) N) i) with b1 | b1 <;> rcases Classical.propComplete (T i = 0) with q1 | q1 <;> simp [b1, q1, b2i_t, b2i_f, gb_n0, gb_n1, n10, n01, nI_eqS]
  · simp (disch := omega) only [lit_nI, nI_leS, nI_ltS, nI_eqS, nI_clS, nI_add, mulI, tI_leS, tI_ltS, tI_eqS, tI_m1, nI_m1, tI_eqn, tI_eqn2, tI_ltn, tI_nle, tI_len, tI_nlt, gi_nI, gi_lit, gz_nI, bnd_some, jn_def, vb_def, if_true, if_false, b2i_0, b2i_1, b2i_t, b2i_f, gb_b2i, gb_n0, gb_n1, bitN, bit0N, sh1N, orI, andI, e7_within, ite_self, n10, n01, Bool.true_eq_false, Bool.false_eq_true, f_X7_fits_4, h0, Nat.le_refl]
/-! conflicts -/
def clC (P T ne fi la : Nat → Nat) (N r c : Nat) (a : Nat) : Nat := a + (if 1 < pc (msk ne (fun s => decide (T s = r + 1) && wi fi la s c) N) 16 then 1 else 0) + (if 1 < pc (vns P T ne fi la N r c) 16 then 1 else 0)
def clR (P T ne fi la : Nat → Nat) (N n r : Nat) (a : Nat) : Nat := fo (clC P T ne fi la N r) a n
def clS (P T ne fi la : Nat → Nat) (N n D : Nat) : Nat := fo (clR P T ne fi la N n) 0 D
theorem clC_le {P T ne fi la : Nat → Nat} {N r c a : Nat} : clC P T ne fi la N r c a ≤ a + 2 := by
  unfold clC; split <;> split <;> omega
theorem clR_le {P T ne fi la : Nat → Nat} {N r a : Nat} : ∀ n, clR P T ne fi la N n r a ≤ a + 2 * n
  | 0 => by show a ≤ _; omega
  | n + 1 => by
    have := clR_le (P := P) (T := T) (ne := ne) (fi := fi) (la := la) (N := N) (r := r) (a := a) n
    have h2 : clC P T ne fi la N r n (clR P T ne fi la N n r a) ≤ _ := clC_le
    show clC P T ne fi la N r n (clR P T ne fi la N n r a) ≤ _
    omega
theorem clS_le {P T ne fi la : Nat → Nat} {N n : Nat} (hn : n ≤ 8) : ∀ D, clS P T ne fi la N n D ≤ 16 * D
  | 0 => Nat.le_refl _
  | D + 1 => by
    have := clS_le (P := P) (T := T) (ne := ne) (fi := fi) (la := la) (N := N) (n := n) hn D
    have h2 : clR P T ne fi la N n D (clS P T ne fi la N n D) ≤ _ := clR_le n
    show clR P T ne fi la N n D (clS P T ne fi la N n D) ≤ _
    omega
theorem e7_clashes (hP : MP σ n P) (h : MS σ N ne fi la) (hT : MT σ N T) : f_X7_clashes σ = some (nI (clS P T ne fi la N n (mxN T N)), σ) := by
  have hN := h.2.1
  have hn := hP.2.1
  have h0 := hP.1
  have hD : mxN T N ≤ 14 := mxN_le (fun j hj => (hT j hj).2)
  have hne : ∀ s, s < N → ne s < 6 := fun s hs => (h.2.2 s hs).2.1
  have inner : ∀ (r a : Nat) (k : Int32 → xSt → Option (Int32 × xSt)), r < 14 → a ≤ 1000 → f_X7_clashes_14 (nI r) k FU (nI a) (nI 0) σ = k (nI (clR P T ne fi la N n r a)) σ := by
    intro r a k hr ha
    refine lpF (fun m (x : Int32 × Int32) => f_X7_clashes_14 (nI r) k m x.1 x.2 σ) (fun i => (nI (clR P T ne fi la N i r a), nI i)) n _ (by omega) (fun m i hi => ?_) (fun m => ?_)
    · have c0 : ¬ n ≤ i := by omega
      have m1 : msk ne (fun s => decide (T s = r + 1) && wi fi la s i) N < 64 := msk_lt hne
      have m2 : vns P T ne fi la N r i < 64 := vns_lt hne (hP.2.2 (2 * i) (by omega)).2
      have z1 := e7_size (big64 m1) σ
      have z2 := e7_size (big64 m2) σ
      have p1 := pc_le (msk ne (fun s => decide (T s = r + 1) && wi fi la s i) N) 16
      have p2 := pc_le (vns P T ne fi la N r i) 16
      have u1 := e7_flat h hT (show r < 100 by omega) (show i < 100 by omega)
      have u2 := e7_upright hP h hT (show r < 100 by omega) hi
      have e : clR P T ne fi la N (i + 1) r a = clC P T ne fi la N r i (clR P T ne fi la N i r a) := rfl
      rw [e, clC]
      generalize hq1 : pc (msk ne (fun s => decide (T s = r + 1) && wi fi la s i) N) 16 = q1 at z1 p1
      generalize hq2 : pc (vns P T ne fi la N r i) 16 = q2 at z2 p2
      generalize msk ne (fun s => decide (T s = r + 1) && wi fi la s i) N = y1 at z1 u1
      generalize vns P T ne fi la N r i = y2 at z2 u2
      simp (disch := omega) only [lit_nI, nI_leS, nI_ltS, nI_eqS, nI_clS, nI_add, mulI, tI_leS, tI_ltS, tI_eqS, tI_m1, nI_m1, tI_eqn, tI_eqn2, tI_ltn, tI_nle, tI_len, tI_nlt, gi_nI, gi_lit, gz_nI, bnd_some, jn_def, vb_def, if_true, if_false, b2i_0, b2i_1, b2i_t, b2i_f, gb_b2i, gb_n0, gb_n1, bitN, bit0N, sh1N, orI, andI, e7_within, ite_self, n10, n01, Bool.true_eq_false, Bool.false_eq_true, f_X7_clashes_14, h0, c0, u1, u2, z1, z2]
      have e1 : (1 < q1) = ¬ q1 ≤ 1 := propext (by omega)
      have e2 : (1 < q2) = ¬ q2 ≤ 1 := propext (by omega)
      rcases Classical.propComplete (q1 ≤ 1) with g1 | g1 <;> rcases Classical.propComplete (q2 ≤ 1) with g2 | g2 <;> simp [e1, e2, g1, g2, nI_add, Nat.add_assoc]
    · simp (disch := omega) only [lit_nI, nI_leS, nI_ltS, nI_eqS, nI_clS, nI_add, mulI, tI_leS, tI_ltS, tI_eqS, tI_m1, nI_m1, tI_eqn, tI_eqn2, tI_ltn, tI_nle, tI_len, tI_nlt, gi_nI, gi_lit, gz_nI, bnd_some, jn_def, vb_def, if_true, if_false, b2i_0, b2i_1, b2i_t, b2i_f, gb_b2i, gb_n0, gb_n1, bitN, bit0N, sh1N, orI, andI, e7_within, ite_self, n10, n01, Bool.true_eq_false, Bool.false_eq_true, f_X7_clashes_14, h0, Nat.le_refl]
  rw [f_X7_clashes]
  refine lpF (fun m (a : Int32 × Int32) => f_X7_clashes_4 _ m a.1 a.2 σ) (fun i => (nI (clS P T ne fi la N n i), nI i)) (mxN T N) _ (by omega) (fun m i hi => ?_) (fun m => ?_)
  · have c0 : ¬ mxN T N ≤ i := by omega
    have hle := clS_le (P := P) (T := T) (ne := ne) (fi := fi) (la := la) (N := N) hn i
    simp (disch := omega) only [lit_nI, nI_leS, nI_ltS, nI_eqS, nI_clS, nI_add, mulI, tI_leS, tI_ltS, tI_eqS, tI_m1, nI_m1, tI_eqn, tI_eqn2, tI_ltn, tI_nle, tI_len, tI_nlt, gi_nI, gi_lit, gz_nI, bnd_some, jn_def, vb_def, if_true, if_false, b2i_0, b2i_1, b2i_t, b2i_f, gb_b2i, gb_n0, gb_n1, bitN, bit0N, sh1N, orI, andI, e7_within, ite_self, n10, n01, Bool.true_eq_false, Bool.false_eq_true, f_X7_clashes_4, e7_depth h.1 hN hT, c0, inner i (clS P T ne fi la N n i) _ (by omega) (by omega)]
    rfl
  · simp (disch := omega) only [lit_nI, nI_leS, nI_ltS, nI_eqS, nI_clS, nI_add, mulI, tI_leS, tI_ltS, tI_eqS, tI_m1, nI_m1, tI_eqn, tI_eqn2, tI_ltn, tI_nle, tI_len, tI_nlt, gi_nI, gi_lit, gz_nI, bnd_some, jn_def, vb_def, if_true, if_false, b2i_0, b2i_1, b2i_t, b2i_f, gb_b2i, gb_n0, gb_n1, bitN, bit0N, sh1N, orI, andI, e7_within, ite_self, n10, n01, Bool.true_eq_false, Bool.false_eq_true, f_X7_clashes_4, e7_depth h.1 hN hT, Nat.le_refl]
end
