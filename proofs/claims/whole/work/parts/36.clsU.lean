/-! ===== the class's segments, whole ===== -/
def sC9 (o : Nat) (c k : Nat) : Bool := sC o c k
section
variable {σ : xSt} {o n N : Nat} {P : Nat → Nat}
theorem bel_bit {L : List (Nat × Nat × Nat)} {s t : Nat} : (bel P n L s).testBit t = (decide (t < L.length) && abv P (gN L) (gF L) (gL L) n s t) := cmk_bit t
theorem bel_lt {L : List (Nat × Nat × Nat)} (s t : Nat) (h : (bel P n L s).testBit t = true) : t < L.length := by
  rw [bel_bit, Bool.and_eq_true, decide_eq_true_eq] at h
  exact h.1
theorem bel_self {L : List (Nat × Nat × Nat)} (s : Nat) : (bel P n L s).testBit s = false := by
  rw [bel_bit, abv]; simp
/-- all that stands in the cells of a Segments object -/
def CW (σ : xSt) (o n : Nat) (P : Nat → Nat) (L : List (Nat × Nat × Nat)) : Prop :=
  HD σ o n L.length P (gN L) (gF L) (gL L) ∧ CB σ o L.length (bel P n L) ∧ CO σ o L.length (prd (bel P n L) L.length) ∧
  (¬ cyc (bel P n L) L.length → σ.1 o 9 = nI (rnd (prd (bel P n L) L.length) L.length) ∧ (∀ s, s < L.length → σ.1 (o + 6) s = nI (lvl (prd (bel P n L) L.length) L.length s)) ∧ ∀ s, s < L.length → σ.1 (o + 7) s = nI (lvl (bel P n L) L.length s)) ∧
  (cyc (bel P n L) L.length → σ.1 o 9 = -nI 1 ∧ ∀ s, s < L.length → σ.1 (o + 6) s = -nI 1)
theorem prd_bit {B : Nat → Nat} {t s : Nat} : (prd B N t).testBit s = (decide (s < N) && (B s).testBit t) := cmk_bit s
theorem e3_build (ho : 4 < o) (hP : CP σ n P) {C : Nat} (hC : C < 64) : ∃ σ', f_X3_build o (nI C) σ = some ((), σ') ∧ CW σ' o n P (sgs P n C 6) ∧ Fr (sC o) σ σ' := by
  have hn := hP.2.1
  have hp6 := fun k hk => (hP.2.2 k hk).2
  have hl := sgs_len (C := C) hn hp6
  have hok := sgs_ok (P := P) (C := C) hn (Nat.le_refl 6)
  have f0 : Fr (sC o) σ (up2 σ o 8 (nI 0)) := Fr.up (by simp [sC])
  obtain ⟨τ1, a1, a2, a3⟩ := e3_buildNets ho (hP.fr ho f0) hC (up2_same _ _ _ _)
  generalize sgs P n C 6 = L at *
  have hP1 := (hP.fr ho f0).fr ho a2
  have hD1 : HD τ1 o n L.length P (gN L) (gF L) (gL L) := by
    refine ⟨⟨a1.1, hl, fun s hs => ⟨(a1.2 s hs).1, ?_⟩⟩, fun s hs => (a1.2 s hs).2.2⟩
    have hm : L.getD s (0, 0, 0) ∈ L := by
      rw [List.getD_eq_getElem?_getD, List.getElem?_eq_getElem hs]
      exact List.getElem_mem hs
    exact hok _ hm
  have z0 : ∀ N, cmk (fun _ => false) N = 0 := by
    intro N
    apply Nat.eq_of_testBit_eq
    intro i
    rw [cmk_bit, Nat.zero_testBit, Bool.and_false]
  have hX1 : MX τ1 o L.length (fun _ _ => false) := fun s hs => by
    rw [z0]
    exact (a1.2 s hs).2.1
  obtain ⟨τ2, b1, b2, b3⟩ := e3_cons ho hP1 hD1 hX1
  have hD2 := hD1.fr b2
  have hB2 : ∀ s, s < L.length → τ2.1 (o + 4) s = nI (bel P n L s) ∧ bel P n L s < 16384 := fun s hs => ⟨(b1 s hs).1, cmk14 hl⟩
  have hV2 : ∀ s, s < L.length → τ2.1 (o + 5) s = nI (prd (bel P n L) L.length s) ∧ prd (bel P n L) L.length s < 16384 := fun s hs => by
    refine ⟨?_, cmk14 hl⟩
    rw [(b1 s hs).2, prd]
    congr 1
    apply cmk_ext
    intro i hi
    rw [bel_bit]
    simp [hs]
  have hpb : ∀ s, s < L.length → ∀ t, (prd (bel P n L) L.length s).testBit t = true → t < L.length := fun s _ t ht => by
    rw [prd_bit, Bool.and_eq_true, decide_eq_true_eq] at ht
    exact ht.1
  have hcr : cyc (bel P n L) L.length ↔ cyc (prd (bel P n L) L.length) L.length := cyc_rev (fun s t => prd_eg)
  have r1 := e3_rank (bf := o + 5) (rk := o + 6) hD2.1.1 hl (by omega) (by omega) hV2 hpb
  have s68 : ∀ d, d ≤ 8 → ∀ c k, sC o c k = false → sR (o + d) c k = false := by
    intro d hd c k h
    simp only [sC, Bool.and_eq_false_iff, decide_eq_false_iff_not] at h
    simp only [sR, decide_eq_false_iff_not]
    omega
  have fo9 : ∀ (τ : xSt) (v : Int32), Fr (sC o) τ (up2 τ o 9 v) := fun τ v => Fr.up (by simp [sC])
  have keepD : ∀ {τ τ' : xSt}, HD τ o n L.length P (gN L) (gF L) (gL L) → (∀ c k, (c = o ∧ k = 8) ∨ c = o + 1 ∨ c = o + 2 ∨ c = o + 3 ∨ c = o + 8 → τ'.1 c k = τ.1 c k) → HD τ' o n L.length P (gN L) (gF L) (gL L) := by
    intro τ τ' h hk
    obtain ⟨⟨h1, h2, h3⟩, h4⟩ := h
    refine ⟨⟨(hk o 8 (Or.inl ⟨rfl, rfl⟩)).trans h1, h2, fun s hs => ?_⟩, fun s hs => ?_⟩
    · obtain ⟨⟨a1, a2, a3⟩, a4⟩ := h3 s hs
      exact ⟨⟨(hk _ s (by omega)).trans a1, (hk _ s (by omega)).trans a2, (hk _ s (by omega)).trans a3⟩, a4⟩
    · obtain ⟨a, a1, a2⟩ := h4 s hs
      exact ⟨a, (hk _ s (by omega)).trans a1, a2⟩
  by_cases hcy : cyc (bel P n L) L.length
  · obtain ⟨τ3, c1, c2, c3⟩ := r1.2 (hcr.mp hcy)
    have hB3 : ∀ s, s < L.length → (up2 τ3 o 9 (-nI 1)).1 (o + 4) s = nI (bel P n L s) ∧ bel P n L s < 16384 := fun s hs => ⟨by rw [up2_cell _ _ _ _ (by omega), c3.1 (o + 4) s (by simp [sR])]; exact (hB2 s hs).1, (hB2 s hs).2⟩
    have n3 : (up2 τ3 o 9 (-nI 1)).1 o 8 = nI L.length := by rw [up2_place _ _ _ _ (by decide), c3.1 o 8 (by simp [sR])]; exact hD2.1.1
    obtain ⟨τ4, d1, d2, d3⟩ := (e3_rank (bf := o + 4) (rk := o + 7) n3 hl (by omega) (by omega) hB3 (fun s _ t => bel_lt s t)).2 hcy
    have get : ∀ c k, c ≠ o + 6 → c ≠ o + 7 → ¬ (c = o ∧ k = 9) → τ4.1 c k = τ2.1 c k := by
      intro c k q1 q2 q3
      rw [d3.1 c k (by simp [sR]; omega), up2_at, if_neg q3, c3.1 c k (by simp [sR]; omega)]
    refine ⟨τ4, ?_, ⟨keepD hD2 (fun c k h => get c k (by omega) (by omega) (by omega)), fun s hs => ⟨(get _ s (by omega) (by omega) (by omega)).trans (hB2 s hs).1, (hB2 s hs).2⟩, fun s hs => ⟨(get _ s (by omega) (by omega) (by omega)).trans (hV2 s hs).1, (hV2 s hs).2⟩, fun h => absurd hcy h, fun _ => ⟨?_, fun s hs => ?_⟩⟩, ?_⟩
    · simp (disch := omega) only [lit_nI, nI_leS, nI_ltS, nI_eqS, nI_clS, nI_add, mulI, tI_leS, tI_ltS, tI_eqS, tI_m1, nI_m1, tI_eqn, tI_eqn2, tI_ltn, tI_nle, tI_len, tI_nlt, gi_nI, gi_lit, gz_nI, bnd_some, jn_def, vb_def, if_true, if_false, b2i_0, b2i_1, b2i_t, b2i_f, gb_b2i, gb_n0, gb_n1, bitN, bit0N, sh1N, orI, andI, e7_within, ite_self, n10, n01, Bool.true_eq_false, Bool.false_eq_true, f_X3_build, a3, b3, c1, d1]
    · rw [d3.1 o 9 (by simp [sR]), up2_same]
    · rw [d3.1 (o + 6) s (by simp [sR]), up2_cell _ _ _ _ (by omega)]; exact c2 s hs
    · exact (f0.tr a2).tr ((b2.mono sX_C).tr ((c3.mono (s68 6 (by omega))).tr ((fo9 _ _).tr (d3.mono (s68 7 (by omega))))))
  · have hcV : ¬ cyc (prd (bel P n L) L.length) L.length := fun h => hcy (hcr.mpr h)
    obtain ⟨τ3, c1, c2, c3⟩ := r1.1 hcV
    have hB3 : ∀ s, s < L.length → (up2 τ3 o 9 (nI (rnd (prd (bel P n L) L.length) L.length))).1 (o + 4) s = nI (bel P n L s) ∧ bel P n L s < 16384 := fun s hs => ⟨by rw [up2_cell _ _ _ _ (by omega), c3.1 (o + 4) s (by simp [sR])]; exact (hB2 s hs).1, (hB2 s hs).2⟩
    have n3 : (up2 τ3 o 9 (nI (rnd (prd (bel P n L) L.length) L.length))).1 o 8 = nI L.length := by rw [up2_place _ _ _ _ (by decide), c3.1 o 8 (by simp [sR])]; exact hD2.1.1
    obtain ⟨τ4, d1, d2, d3⟩ := (e3_rank (bf := o + 4) (rk := o + 7) n3 hl (by omega) (by omega) hB3 (fun s _ t => bel_lt s t)).1 hcy
    have get : ∀ c k, c ≠ o + 6 → c ≠ o + 7 → ¬ (c = o ∧ k = 9) → τ4.1 c k = τ2.1 c k := by
      intro c k q1 q2 q3
      rw [d3.1 c k (by simp [sR]; omega), up2_at, if_neg q3, c3.1 c k (by simp [sR]; omega)]
    refine ⟨τ4, ?_, ⟨keepD hD2 (fun c k h => get c k (by omega) (by omega) (by omega)), fun s hs => ⟨(get _ s (by omega) (by omega) (by omega)).trans (hB2 s hs).1, (hB2 s hs).2⟩, fun s hs => ⟨(get _ s (by omega) (by omega) (by omega)).trans (hV2 s hs).1, (hV2 s hs).2⟩, fun _ => ⟨?_, fun s hs => ?_, fun s hs => d2 s hs⟩, fun h => absurd h hcy⟩, ?_⟩
    · simp (disch := omega) only [lit_nI, nI_leS, nI_ltS, nI_eqS, nI_clS, nI_add, mulI, tI_leS, tI_ltS, tI_eqS, tI_m1, nI_m1, tI_eqn, tI_eqn2, tI_ltn, tI_nle, tI_len, tI_nlt, gi_nI, gi_lit, gz_nI, bnd_some, jn_def, vb_def, if_true, if_false, b2i_0, b2i_1, b2i_t, b2i_f, gb_b2i, gb_n0, gb_n1, bitN, bit0N, sh1N, orI, andI, e7_within, ite_self, n10, n01, Bool.true_eq_false, Bool.false_eq_true, f_X3_build, a3, b3, c1, d1]
    · rw [d3.1 o 9 (by simp [sR]), up2_same]
    · rw [d3.1 (o + 6) s (by simp [sR]), up2_cell _ _ _ _ (by omega)]; exact c2 s hs
    · exact (f0.tr a2).tr ((b2.mono sX_C).tr ((c3.mono (s68 6 (by omega))).tr ((fo9 _ _).tr (d3.mono (s68 7 (by omega))))))
end
