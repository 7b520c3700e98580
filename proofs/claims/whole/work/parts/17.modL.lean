/-! ===== the reference lays its segments ===== -/
def gN (L : List (Nat × Nat × Nat)) (s : Nat) : Nat := (L.getD s (0, 0, 0)).1
def gF (L : List (Nat × Nat × Nat)) (s : Nat) : Nat := (L.getD s (0, 0, 0)).2.1
def gL (L : List (Nat × Nat × Nat)) (s : Nat) : Nat := (L.getD s (0, 0, 0)).2.2
/-- each segment's net is below 6, its columns below 8 -/
def okL (L : List (Nat × Nat × Nat)) : Prop := ∀ q ∈ L, q.1 < 6 ∧ q.2.1 < 8 ∧ q.2.2 < 8
def HM (σ : xSt) (L : List (Nat × Nat × Nat)) : Prop := σ.1 0 4 = nI L.length ∧ ∀ s, s < L.length → σ.1 2 s = nI (gN L s) ∧ σ.1 3 s = nI (gF L s) ∧ σ.1 4 s = nI (gL L s)
/-- what laying the segments may change -/
def sS (c k : Nat) : Bool := decide (c = 2) || (decide (c = 3) || (decide (c = 4) || (decide (c = 0) && decide (k = 4))))
theorem HM.ms {σ : xSt} {L : List (Nat × Nat × Nat)} (h : HM σ L) (hl : L.length ≤ 14) (ho : okL L) : MS σ L.length (gN L) (gF L) (gL L) := by
  refine ⟨h.1, hl, fun s hs => ⟨h.2 s hs, ?_⟩⟩
  have hm : L.getD s (0, 0, 0) ∈ L := by
    rw [List.getD_eq_getElem?_getD, List.getElem?_eq_getElem hs]
    exact List.getElem_mem hs
  exact ho _ hm
theorem getD_app {L : List (Nat × Nat × Nat)} {q : Nat × Nat × Nat} {s : Nat} (hs : s < L.length) : (L ++ [q]).getD s (0, 0, 0) = L.getD s (0, 0, 0) := by
  rw [List.getD_eq_getElem?_getD, List.getD_eq_getElem?_getD, List.getElem?_append_left hs]
theorem getD_last {L : List (Nat × Nat × Nat)} {q : Nat × Nat × Nat} : (L ++ [q]).getD L.length (0, 0, 0) = q := by
  rw [List.getD_eq_getElem?_getD, List.getElem?_append_right (Nat.le_refl _)]
  simp
theorem g_app {L : List (Nat × Nat × Nat)} {q : Nat × Nat × Nat} {s : Nat} (hs : s < L.length) : gN (L ++ [q]) s = gN L s ∧ gF (L ++ [q]) s = gF L s ∧ gL (L ++ [q]) s = gL L s := by
  unfold gN gF gL
  rw [getD_app hs]
  exact ⟨rfl, rfl, rfl⟩
theorem g_last {L : List (Nat × Nat × Nat)} {w a b : Nat} : gN (L ++ [(w, a, b)]) L.length = w ∧ gF (L ++ [(w, a, b)]) L.length = a ∧ gL (L ++ [(w, a, b)]) L.length = b := by
  unfold gN gF gL
  rw [getD_last]
  exact ⟨rfl, rfl, rfl⟩
theorem e7_addSegment {σ : xSt} {L : List (Nat × Nat × Nat)} (h : HM σ L) (hl : L.length < 14) (w a b : Nat) : ∃ σ', f_X7_addSegment (nI w) (nI a) (nI b) σ = some ((), σ') ∧ HM σ' (L ++ [(w, a, b)]) ∧ Fr sS σ σ' := by
  obtain ⟨h1, h2⟩ := h
  refine ⟨up2 (up2 (up2 (up2 σ 2 L.length (nI w)) 3 L.length (nI a)) 4 L.length (nI b)) 0 4 (nI (L.length + 1)), ?_, ⟨?_, ?_⟩, ?_⟩
  · simp (disch := omega) only [lit_nI, nI_leS, nI_ltS, nI_eqS, nI_clS, nI_add, mulI, tI_leS, tI_ltS, tI_eqS, tI_m1, nI_m1, tI_eqn, tI_eqn2, tI_ltn, tI_nle, tI_len, tI_nlt, gi_nI, gi_lit, gz_nI, bnd_some, jn_def, vb_def, if_true, if_false, b2i_0, b2i_1, b2i_t, b2i_f, gb_b2i, gb_n0, gb_n1, bitN, bit0N, sh1N, orI, andI, e7_within, ite_self, n10, n01, Bool.true_eq_false, Bool.false_eq_true, f_X7_addSegment, h1, up2_cell]
  · rw [up2_same, List.length_append]; rfl
  · intro s hs
    rw [List.length_append] at hs
    have hs' : s < L.length + 1 := hs
    by_cases e : s = L.length
    · obtain ⟨a1, a2, a3⟩ := g_last (L := L) (w := w) (a := a) (b := b)
      rw [e, a1, a2, a3]
      simp [up2_at]
    · have hlt : s < L.length := by omega
      obtain ⟨a1, a2, a3⟩ := h2 s hlt
      obtain ⟨b1, b2, b3⟩ := g_app (q := (w, a, b)) hlt
      rw [b1, b2, b3]
      simp only [up2_at, e, and_false, if_false]
      simp [a1, a2, a3]
  · exact ((Fr.up (by simp [sS])).tr (Fr.up (by simp [sS]))).tr ((Fr.up (by simp [sS])).tr (Fr.up (by simp [sS])))
theorem MP.fr {σ σ' : xSt} {n : Nat} {P : Nat → Nat} (h : MP σ n P) (hf : Fr sS σ σ') : MP σ' n P :=
  ⟨(hf.1 0 0 rfl).trans h.1, h.2.1, fun k hk => ⟨(hf.1 1 k rfl).trans (h.2.2 k hk).1, (h.2.2 k hk).2⟩⟩
theorem okL_app {L M : List (Nat × Nat × Nat)} (h1 : okL L) (h2 : okL M) : okL (L ++ M) := fun q hq => (List.mem_append.mp hq).elim (h1 q) (h2 q)
theorem e7_layNet {σ : xSt} {n w C : Nat} {P : Nat → Nat} {L : List (Nat × Nat × Nat)} (hP : MP σ n P) (h : HM σ L) (hw : w < 6) (hl : L.length + (sgW P n C w).length ≤ 14) : ∃ σ', f_X7_layNet (nI w) (b2i (C.testBit w)) σ = some ((), σ') ∧ HM σ' (L ++ sgW P n C w) ∧ Fr sS σ σ' := by
  have hn := hP.2.1
  have hk : ∀ k, lpn P w k ≤ k := lpn_le P w
  rw [f_X7_layNet]
  rcases hcut : C.testBit w with _ | _
  · -- whole
    have hsg : sgW P n C w = whl P w n := by rw [sgW, hcut]; rfl
    rw [hsg] at hl ⊢
    have hloop : f_X7_layNet_8 (nI w) (b2i false) (fun e26 e27 s28 => jn (fun (v31 : Unit) (s32 : xSt) => some ((), s32)) (fun j33 => if (b2i false) = 0 then (if e27 ≤ e26 then (j33 () s28) else (bnd (f_X7_addSegment (nI w) e26 e27 s28) (fun r34 s35 => j33 () s35))) else (j33 () s28))) FU (-1) (-1) 0 σ = jn (fun (v31 : Unit) (s32 : xSt) => some ((), s32)) (fun j33 => if (b2i false) = 0 then (if tI (lpn P w n) ≤ tI (fpn P w n) then (j33 () σ) else (bnd (f_X7_addSegment (nI w) (tI (fpn P w n)) (tI (lpn P w n)) σ) (fun r34 s35 => j33 () s35))) else (j33 () σ)) := by
      refine lpF (fun m (a : Int32 × Int32 × Int32) => f_X7_layNet_8 (nI w) (b2i false) _ m a.1 a.2.1 a.2.2 σ) (fun i => (tI (fpn P w i), tI (lpn P w i), nI i)) n _ (by omega) (fun m i hi => ?_) (fun m => ?_)
      · have c0 : ¬ n ≤ i := by omega
        have f1 := fpn_le P w i
        have f2 := hk i
        simp (disch := omega) only [lit_nI, nI_leS, nI_ltS, nI_eqS, nI_clS, nI_add, mulI, tI_leS, tI_ltS, tI_eqS, tI_m1, nI_m1, tI_eqn, tI_eqn2, tI_ltn, tI_nle, tI_len, tI_nlt, gi_nI, gi_lit, gz_nI, bnd_some, jn_def, vb_def, if_true, if_false, b2i_0, b2i_1, b2i_t, b2i_f, gb_b2i, gb_n0, gb_n1, bitN, bit0N, sh1N, orI, andI, e7_within, ite_self, n10, n01, Bool.true_eq_false, Bool.false_eq_true, f_X7_layNet_8, hP.1, c0, e7_hasPin hP hi hw]
        have e1 : fpn P w (i + 1) = if fpn P w i = 0 then (if hp P w i then i + 1 else 0) else fpn P w i := rfl
        have e2 : lpn P w (i + 1) = if hp P w i then i + 1 else lpn P w i := rfl
        rw [e1, e2]
        rcases Bool.eq_false_or_eq_true (hp P w i) with b1 | b1 <;> rcases Classical.propComplete (fpn P w i = 0) with q1 | q1 <;> simp [b1, q1, tI_succ]
        rw [of_eq_true q1]
      · simp (disch := omega) only [lit_nI, nI_leS, nI_ltS, nI_eqS, nI_clS, nI_add, mulI, tI_leS, tI_ltS, tI_eqS, tI_m1, nI_m1, tI_eqn, tI_eqn2, tI_ltn, tI_nle, tI_len, tI_nlt, gi_nI, gi_lit, gz_nI, bnd_some, jn_def, vb_def, if_true, if_false, b2i_0, b2i_1, b2i_t, b2i_f, gb_b2i, gb_n0, gb_n1, bitN, bit0N, sh1N, orI, andI, e7_within, ite_self, n10, n01, Bool.true_eq_false, Bool.false_eq_true, f_X7_layNet_8, hP.1, Nat.le_refl]
    rw [hloop]
    have f1 := fpn_le P w n
    have f2 := hk n
    rw [whl]
    by_cases q : fpn P w n < lpn P w n
    · rw [if_pos q]
      obtain ⟨a, ha⟩ : ∃ a, fpn P w n = a + 1 := ⟨fpn P w n - 1, by omega⟩
      obtain ⟨b, hb⟩ : ∃ b, lpn P w n = b + 1 := ⟨lpn P w n - 1, by omega⟩
      rw [whl, if_pos q] at hl
      have q' : ¬ b + 1 ≤ a + 1 := by omega
      obtain ⟨σ', s1, s2, s3⟩ := e7_addSegment h (by simp at hl; omega) w a b
      rw [ha, hb]
      refine ⟨σ', ?_, by simpa using s2, s3⟩
      simp (disch := omega) only [lit_nI, nI_leS, nI_ltS, nI_eqS, nI_clS, nI_add, mulI, tI_leS, tI_ltS, tI_eqS, tI_m1, nI_m1, tI_eqn, tI_eqn2, tI_ltn, tI_nle, tI_len, tI_nlt, gi_nI, gi_lit, gz_nI, bnd_some, jn_def, vb_def, if_true, if_false, b2i_0, b2i_1, b2i_t, b2i_f, gb_b2i, gb_n0, gb_n1, bitN, bit0N, sh1N, orI, andI, e7_within, ite_self, n10, n01, Bool.true_eq_false, Bool.false_eq_true, tI_succ, s1]
      have q2 : ¬ b ≤ a := by omega
      simp [q2]
    · rw [if_neg q]
      have q' : lpn P w n ≤ fpn P w n := by omega
      refine ⟨σ, ?_, by simpa using h, Fr.rf⟩
      simp (disch := omega) only [lit_nI, nI_leS, nI_ltS, nI_eqS, nI_clS, nI_add, mulI, tI_leS, tI_ltS, tI_eqS, tI_m1, nI_m1, tI_eqn, tI_eqn2, tI_ltn, tI_nle, tI_len, tI_nlt, gi_nI, gi_lit, gz_nI, bnd_some, jn_def, vb_def, if_true, if_false, b2i_0, b2i_1, b2i_t, b2i_f, gb_b2i, gb_n0, gb_n1, bitN, bit0N, sh1N, orI, andI, e7_within, ite_self, n10, n01, Bool.true_eq_false, Bool.false_eq_true]
      simp [q']
  · -- split
    have hsg : sgW P n C w = pcs P w n := by rw [sgW, hcut]; rfl
    rw [hsg] at hl ⊢
    have hst := lpI (fun m (a : Int32 × Int32 × Int32 × xSt) => f_X7_layNet_8 (nI w) (b2i true) (fun e26 e27 s28 => jn (fun (v31 : Unit) (s32 : xSt) => some ((), s32)) (fun j33 => if (b2i true) = 0 then (if e27 ≤ e26 then (j33 () s28) else (bnd (f_X7_addSegment (nI w) e26 e27 s28) (fun r34 s35 => j33 () s35))) else (j33 () s28))) m a.1 a.2.1 a.2.2.1 a.2.2.2) (fun i a => a.1 = tI (fpn P w i) ∧ a.2.1 = tI (lpn P w i) ∧ a.2.2.1 = nI i ∧ HM a.2.2.2 (L ++ pcs P w i) ∧ Fr sS σ a.2.2.2) n (fun a => some ((), a.2.2.2)) (by omega) (fun m i a hi hI => ?_) (fun m a hI => ?_) (-1, -1, 0, σ) ⟨rfl, rfl, rfl, by simpa [pcs, fo] using h, Fr.rf⟩
    · obtain ⟨⟨a1, a2, a3, σ'⟩, ⟨i1, i2, i3, i4, i5⟩, i6⟩ := hst
      exact ⟨σ', i6, i4, i5⟩
    · obtain ⟨a1, a2, a3, τ⟩ := a
      obtain ⟨i1, i2, i3, i4, i5⟩ := hI
      dsimp only at i1 i2 i3 i4 i5 ⊢
      subst i1 i2 i3
      have c0 : ¬ n ≤ i := by omega
      have f1 := fpn_le P w i
      have f2 := hk i
      have hP' := hP.fr i5
      have e1 : fpn P w (i + 1) = if fpn P w i = 0 then (if hp P w i then i + 1 else 0) else fpn P w i := rfl
      have e2 : lpn P w (i + 1) = if hp P w i then i + 1 else lpn P w i := rfl
      have e3 : pcs P w (i + 1) = if hp P w i = true ∧ lpn P w i ≠ 0 then pcs P w i ++ [(w, lpn P w i - 1, i)] else pcs P w i := rfl
      rcases Bool.eq_false_or_eq_true (hp P w i) with b1 | b1
      · by_cases q1 : lpn P w i = 0
        · have q2 : fpn P w i = 0 := f1.2.mpr q1
          refine ⟨(tI (i + 1), tI (i + 1), nI (i + 1), τ), ⟨?_, ?_, rfl, ?_, i5⟩, ?_⟩
          · rw [e1, if_pos q2, if_pos b1]
          · rw [e2, if_pos b1]
          · rw [e3, if_neg (fun h => h.2 q1)]; exact i4
          · simp (disch := omega) only [lit_nI, nI_leS, nI_ltS, nI_eqS, nI_clS, nI_add, mulI, tI_leS, tI_ltS, tI_eqS, tI_m1, nI_m1, tI_eqn, tI_eqn2, tI_ltn, tI_nle, tI_len, tI_nlt, gi_nI, gi_lit, gz_nI, bnd_some, jn_def, vb_def, if_true, if_false, b2i_0, b2i_1, b2i_t, b2i_f, gb_b2i, gb_n0, gb_n1, bitN, bit0N, sh1N, orI, andI, e7_within, ite_self, n10, n01, Bool.true_eq_false, Bool.false_eq_true, f_X7_layNet_8, hP'.1, c0, e7_hasPin hP' hi hw, b1, q1, q2, tI_succ]
        · have q2 : ¬ fpn P w i = 0 := fun e => q1 (f1.2.mp e)
          obtain ⟨b, hb⟩ : ∃ b, lpn P w i = b + 1 := ⟨lpn P w i - 1, by omega⟩
          have hlen : (L ++ pcs P w i).length < 14 := by
            have h1 := pcs_pre (P := P) (w := w) (show i + 1 ≤ n by omega)
            have h2 : (pcs P w (i + 1)).length = (pcs P w i).length + 1 := by rw [e3, if_pos ⟨b1, q1⟩]; simp
            rw [List.length_append]; omega
          obtain ⟨τ', s1, s2, s3⟩ := e7_addSegment i4 hlen w b i
          refine ⟨(tI (fpn P w i), tI (i + 1), nI (i + 1), τ'), ⟨?_, ?_, rfl, ?_, i5.tr s3⟩, ?_⟩
          · rw [e1, if_neg q2]
          · rw [e2, if_pos b1]
          · rw [e3, if_pos ⟨b1, q1⟩, hb, ← List.append_assoc]; exact s2
          · simp (disch := omega) only [lit_nI, nI_leS, nI_ltS, nI_eqS, nI_clS, nI_add, mulI, tI_leS, tI_ltS, tI_eqS, tI_m1, nI_m1, tI_eqn, tI_eqn2, tI_ltn, tI_nle, tI_len, tI_nlt, gi_nI, gi_lit, gz_nI, bnd_some, jn_def, vb_def, if_true, if_false, b2i_0, b2i_1, b2i_t, b2i_f, gb_b2i, gb_n0, gb_n1, bitN, bit0N, sh1N, orI, andI, e7_within, ite_self, n10, n01, Bool.true_eq_false, Bool.false_eq_true, f_X7_layNet_8, hP'.1, c0, e7_hasPin hP' hi hw, b1, hb, q2, tI_succ, s1]
      · refine ⟨(tI (fpn P w i), tI (lpn P w i), nI (i + 1), τ), ⟨?_, ?_, rfl, ?_, i5⟩, ?_⟩
        · rw [e1, b1]
          by_cases q2 : fpn P w i = 0
          · simp [q2]
          · simp [q2]
        · rw [e2, b1]; rfl
        · rw [e3, if_neg (fun h => by rw [b1] at h; exact absurd h.1 (by decide))]; exact i4
        · simp (disch := omega) only [lit_nI, nI_leS, nI_ltS, nI_eqS, nI_clS, nI_add, mulI, tI_leS, tI_ltS, tI_eqS, tI_m1, nI_m1, tI_eqn, tI_eqn2, tI_ltn, tI_nle, tI_len, tI_nlt, gi_nI, gi_lit, gz_nI, bnd_some, jn_def, vb_def, if_true, if_false, b2i_0, b2i_1, b2i_t, b2i_f, gb_b2i, gb_n0, gb_n1, bitN, bit0N, sh1N, orI, andI, e7_within, ite_self, n10, n01, Bool.true_eq_false, Bool.false_eq_true, f_X7_layNet_8, hP'.1, c0, e7_hasPin hP' hi hw, b1]
    · obtain ⟨a1, a2, a3, τ⟩ := a
      obtain ⟨i1, i2, i3, i4, i5⟩ := hI
      dsimp only at i1 i2 i3 i4 i5 ⊢
      subst i1 i2 i3
      have hP' := hP.fr i5
      simp (disch := omega) only [lit_nI, nI_leS, nI_ltS, nI_eqS, nI_clS, nI_add, mulI, tI_leS, tI_ltS, tI_eqS, tI_m1, nI_m1, tI_eqn, tI_eqn2, tI_ltn, tI_nle, tI_len, tI_nlt, gi_nI, gi_lit, gz_nI, bnd_some, jn_def, vb_def, if_true, if_false, b2i_0, b2i_1, b2i_t, b2i_f, gb_b2i, gb_n0, gb_n1, bitN, bit0N, sh1N, orI, andI, e7_within, ite_self, n10, n01, Bool.true_eq_false, Bool.false_eq_true, f_X7_layNet_8, hP'.1, Nat.le_refl]
theorem whl_ok {P : Nat → Nat} {w n : Nat} (hw : w < 6) (hn : n ≤ 8) : okL (whl P w n) := by
  rw [whl]
  have h1 := fpn_le P w n
  have h2 := lpn_le P w n
  split
  · intro q hq
    rw [List.mem_singleton] at hq
    subst hq
    exact ⟨hw, by show fpn P w n - 1 < 8; omega, by show lpn P w n - 1 < 8; omega⟩
  · intro q hq; exact absurd hq List.not_mem_nil
theorem pcs_ok {P : Nat → Nat} {w : Nat} (hw : w < 6) : ∀ {n : Nat}, n ≤ 8 → okL (pcs P w n)
  | 0, _ => fun q hq => absurd hq List.not_mem_nil
  | n + 1, hn => by
    have ih := pcs_ok (P := P) hw (n := n) (by omega)
    have h2 := lpn_le P w n
    have e3 : pcs P w (n + 1) = if hp P w n = true ∧ lpn P w n ≠ 0 then pcs P w n ++ [(w, lpn P w n - 1, n)] else pcs P w n := rfl
    rw [e3]
    split
    · refine okL_app ih ?_
      intro q hq
      rw [List.mem_singleton] at hq
      subst hq
      exact ⟨hw, by show lpn P w n - 1 < 8; omega, by show n < 8; omega⟩
    · exact ih
theorem sgs_ok {P : Nat → Nat} {n C : Nat} (hn : n ≤ 8) : ∀ {w : Nat}, w ≤ 6 → okL (sgs P n C w)
  | 0, _ => fun q hq => absurd hq List.not_mem_nil
  | w + 1, hw => by
    refine okL_app (sgs_ok hn (w := w) (by omega)) ?_
    rw [sgW]
    split
    · exact pcs_ok (by omega) hn
    · exact whl_ok (by omega) hn
/-- the masks of what is below, and of what is far below -/
def bel (P : Nat → Nat) (n : Nat) (L : List (Nat × Nat × Nat)) (s : Nat) : Nat := cmk (abv P (gN L) (gF L) (gL L) n s) L.length
def fwS (F : Nat → Nat) (b : Nat) : Nat → Nat := fun s => if (F s).testBit b then F s ||| F b else F s
def far (B : Nat → Nat) (N : Nat) : Nat → Nat := fo (fun b F => fwS F b) B N
theorem fwS_lt {F : Nat → Nat} {b N : Nat} (hb : b < N) (h : ∀ s, s < N → F s < 16384) : ∀ s, s < N → fwS F b s < 16384 := by
  intro s hs
  rw [fwS]
  split
  · exact or_lt (n := 14) (h s hs) (h b hb)
  · exact h s hs
/-- what laying all may change -/
def sA (c k : Nat) : Bool := sS c k || (decide (c = 6) || decide (c = 7))
theorem sS_A : ∀ c k, sA c k = false → sS c k = false := by
  intro c k h
  rw [sA, Bool.or_eq_false_iff] at h
  exact h.1
theorem MP.frA {σ σ' : xSt} {n : Nat} {P : Nat → Nat} (h : MP σ n P) (hf : Fr sA σ σ') : MP σ' n P :=
  ⟨(hf.1 0 0 rfl).trans h.1, h.2.1, fun k hk => ⟨(hf.1 1 k rfl).trans (h.2.2 k hk).1, (h.2.2 k hk).2⟩⟩
/-- under and far may change -/
def sB (c k : Nat) : Bool := decide (c = 6) || decide (c = 7)
theorem HM.frB {σ σ' : xSt} {L : List (Nat × Nat × Nat)} (h : HM σ L) (hf : Fr sB σ σ') : HM σ' L :=
  ⟨(hf.1 0 4 rfl).trans h.1, fun s hs => ⟨(hf.1 2 s rfl).trans (h.2 s hs).1, (hf.1 3 s rfl).trans (h.2 s hs).2.1, (hf.1 4 s rfl).trans (h.2 s hs).2.2⟩⟩
theorem MP.frB {σ σ' : xSt} {n : Nat} {P : Nat → Nat} (h : MP σ n P) (hf : Fr sB σ σ') : MP σ' n P :=
  ⟨(hf.1 0 0 rfl).trans h.1, h.2.1, fun k hk => ⟨(hf.1 1 k rfl).trans (h.2.2 k hk).1, (h.2.2 k hk).2⟩⟩
theorem cmk14 {p : Nat → Bool} {N : Nat} (h : N ≤ 14) : cmk p N < 16384 := Nat.lt_of_lt_of_le cmk_lt (Nat.pow_le_pow_right (n := 2) (by decide) h)
