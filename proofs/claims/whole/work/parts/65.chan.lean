/-! ===== a channel is read ===== -/
def pv (x : Nat) : Nat := if x = 46 then 0 else x - 96
def nwP (X : Nat → Nat) (c k : Nat) : Nat := pv (X (if k % 2 = 0 then k / 2 else c + 1 + k / 2))
theorem pv_le {x : Nat} (h : pnB x = true) : pv x ≤ 6 := by
  rw [pnB, Bool.or_eq_true, Bool.and_eq_true, decide_eq_true_eq, decide_eq_true_eq, decide_eq_true_eq] at h
  rw [pv]; split <;> omega
theorem pv_I {x : Nat} (h : pnB x = true) : (if nI x = (46 : Int32) then (-1 : Int32) else nI x - 97) = tI (pv x) := by
  rw [pnB, Bool.or_eq_true, Bool.and_eq_true, decide_eq_true_eq, decide_eq_true_eq, decide_eq_true_eq] at h
  by_cases q : x = 46
  · subst q; rfl
  · rw [if_neg (show ¬ nI x = (46 : Int32) from nlit (m := 46) (by omega) (by omega) q), pv, if_neg q, show x - 96 = (x - 97) + 1 by omega, tI_succ]
    exact subI (b := 97) (by omega)
theorem nwP_0 {X : Nat → Nat} {c i : Nat} : nwP X c (2 * i) = pv (X i) := by
  rw [nwP, if_pos (by omega), show 2 * i / 2 = i by omega]
theorem nwP_1 {X : Nat → Nat} {c i : Nat} : nwP X c (2 * i + 1) = pv (X (c + 1 + i)) := by
  rw [nwP, if_neg (by omega), show (2 * i + 1) / 2 = i by omega]
section
variable {σ σ' τ τ' : xSt} {n C l b : Nat} {P T X : Nat → Nat}
theorem R_lay2 (hC : CP σ n P) (hM : MP τ n P) (hc : C < 64) (hs : σ.1 0 7 = nI C) (ht : τ.1 0 2 = nI C) : ∃ σ' τ', f_X6_derive σ = some ((), σ') ∧ f_X7_layNew τ = some ((), τ') ∧ RC σ' n C P (fun _ => 0) ∧ RM τ' n C P (fun _ => 0) ∧ Fr sDC σ σ' ∧ Fr sDM τ τ' := by
  obtain ⟨σ', a1, a2, a3, a4, a5, a6⟩ := e6_derive hC hc hs
  obtain ⟨τ', b1, b2, b3, b4, b5, b6, b7⟩ := e7_layNew hM hc ht
  have hl := sgs_len (C := C) hC.2.1 (fun k hk => (hC.2.2 k hk).2)
  exact ⟨σ', τ', a1, b1, ⟨⟨(a6.1 3 1 rfl).trans hC.1, hC.2.1, fun k hk => ⟨(a6.1 4 k rfl).trans (hC.2.2 k hk).1, (hC.2.2 k hk).2⟩⟩, hc, (a6.1 0 7 rfl).trans hs, a2, a3, a4, ⟨fun s h => ⟨(a5 s h).trans tI_0.symm, Nat.zero_le _⟩, fun _ _ _ => rfl⟩⟩, ⟨⟨(b7.1 0 0 rfl).trans hM.1, hM.2.1, fun k hk => ⟨(b7.1 1 k rfl).trans (hM.2.2 k hk).1, (hM.2.2 k hk).2⟩⟩, (b7.1 0 2 rfl).trans ht, b2, b3, b4, b5, fun s h => ⟨(b6 s (by omega)).trans tI_0.symm, Nat.zero_le _⟩⟩, a6, b7⟩
theorem e4_netAt (h : CTx σ l X) {i : Nat} (hi : i < l) (hp : pnB (X i) = true) : f_X4_netAt (nI i) σ = some (tI (pv (X i)), σ) := by
  obtain ⟨t1, t2, t3⟩ := h
  rw [f_X4_netAt]
  simp only [jn_def]
  rw [if_neg (show ¬ nI i < (0 : Int32) from xn_lt (b := 0) (Nat.zero_le i) (by omega)), t1, if_neg (xn_le hi (by omega)), gi_nI (by omega) (by omega), gi_nI (by omega) (by omega), nI_clS (by omega), (t3 i hi).1, ← pv_I hp]
  by_cases q : nI (X i) = (46 : Int32)
  · rw [if_pos q, if_pos q]
  · rw [if_neg q, if_neg q]
theorem e7_netBy {x : Nat} (hp : pnB x = true) : f_X7_netBy (nI x) τ = some (tI (pv x), τ) := by
  rw [f_X7_netBy, ← pv_I hp]
  simp only [jn_def]
  by_cases q : nI x = (46 : Int32)
  · rw [if_pos q, if_pos q]
  · rw [if_neg q, if_neg q]
theorem CTx.f4 (h : CTx σ l X) (hf : Fr (sR 4) σ σ') : CTx σ' l X := ⟨(hf.1 1 1 rfl).trans h.1, h.2.1, fun i hi => ⟨(hf.1 2 i rfl).trans (h.2.2 i hi).1, (h.2.2 i hi).2⟩⟩
theorem MTx.f1 (h : MTx τ l X) (hf : Fr (sR 1) τ τ') : MTx τ' l X := ⟨(hf.1 0 14 rfl).trans h.1, h.2.1, fun i hi => ⟨(hf.1 9 i rfl).trans (h.2.2 i hi).1, (h.2.2 i hi).2⟩⟩
theorem e6_pins (h : CTx σ l X) {c : Nat} (hc : c ≤ 8) (hl : c + 1 + c = l) (p0 : ∀ i, i < c → pnB (X i) = true) (p1 : ∀ i, i < c → pnB (X (c + 1 + i)) = true) (k : xSt → Option (Int32 × xSt)) : ∃ σ', (∀ i, i < 2 * c → σ'.1 4 i = tI (nwP X c i)) ∧ Fr (sR 4) σ σ' ∧ f_X6_channel_26 (nI c) k FU (nI 0) σ = k σ' := by
  refine (lpI (fun m (a : Int32 × xSt) => f_X6_channel_26 (nI c) k m a.1 a.2) (fun i a => a.1 = nI i ∧ (∀ j, j < 2 * i → a.2.1 4 j = tI (nwP X c j)) ∧ Fr (sR 4) σ a.2) c (fun a => k a.2) (by omega) (fun m i a hi ha => ?_) (fun m a ha => ?_) (nI 0, σ) ⟨rfl, fun j hj => by omega, Fr.rf⟩).elim (fun a' hh => ⟨a'.2, hh.1.2.1, hh.1.2.2, hh.2⟩)
  · obtain ⟨w, s⟩ := a
    obtain ⟨h1, h2, h3⟩ := ha
    have h1' : w = nI i := h1
    subst h1'
    have hs := h.f4 h3
    have f1 : Fr (sR 4) s (up2 s 4 (2 * i) (tI (pv (X i)))) := Fr.up rfl
    have hs1 := hs.f4 f1
    have f2 : Fr (sR 4) (up2 s 4 (2 * i) (tI (pv (X i)))) (up2 (up2 s 4 (2 * i) (tI (pv (X i)))) 4 (2 * i + 1) (tI (pv (X (c + 1 + i))))) := Fr.up rfl
    refine ⟨(nI (i + 1), up2 (up2 s 4 (2 * i) (tI (pv (X i)))) 4 (2 * i + 1) (tI (pv (X (c + 1 + i))))), ⟨rfl, fun j hj => ?_, h3.tr (f1.tr f2)⟩, ?_⟩
    · by_cases q1 : j = 2 * i + 1
      · subst q1
        rw [nwP_1]; exact up2_same _ _ _ _
      · have e1 : (up2 (up2 s 4 (2 * i) (tI (pv (X i)))) 4 (2 * i + 1) (tI (pv (X (c + 1 + i))))).1 4 j = (up2 s 4 (2 * i) (tI (pv (X i)))).1 4 j := up2_place _ _ _ _ q1
        rw [show ((nI (i + 1), up2 (up2 s 4 (2 * i) (tI (pv (X i)))) 4 (2 * i + 1) (tI (pv (X (c + 1 + i))))) : Int32 × xSt).2.1 4 j = (up2 s 4 (2 * i) (tI (pv (X i)))).1 4 j from e1]
        by_cases q0 : j = 2 * i
        · subst q0
          rw [nwP_0]; exact up2_same _ _ _ _
        · rw [up2_place _ _ _ _ q0]; exact h2 j (by omega)
    · show f_X6_channel_26 (nI c) k (m + 1) (nI i) s = f_X6_channel_26 (nI c) k m (nI (i + 1)) _
      have c0 : f_X0_change (nI i) 0 (tI (pv (X i))) s = some ((), up2 s 4 (2 * i) (tI (pv (X i)))) := e0_change (s := 0) (by omega)
      have c1 : f_X0_change (nI i) 1 (tI (pv (X (c + 1 + i)))) (up2 s 4 (2 * i) (tI (pv (X i)))) = some ((), up2 (up2 s 4 (2 * i) (tI (pv (X i)))) 4 (2 * i + 1) (tI (pv (X (c + 1 + i))))) := e0_change (s := 1) (by omega)
      have n1 : f_X4_netAt (nI c + 1 + nI i) (up2 s 4 (2 * i) (tI (pv (X i)))) = some (tI (pv (X (c + 1 + i))), up2 s 4 (2 * i) (tI (pv (X i)))) := by
        rw [xn_s, nI_add]; exact e4_netAt hs1 (by omega) (p1 i hi)
      rw [f_X6_channel_26, if_neg (xn_le hi (by omega)), e4_netAt hs (by omega) (p0 i hi), bnd_some, c0, bnd_some, n1, bnd_some, c1, bnd_some, xn_s]
  · obtain ⟨w, s⟩ := a
    have h1' : w = nI c := ha.1
    subst h1'
    show f_X6_channel_26 (nI c) k (m + 1) (nI c) s = _
    rw [f_X6_channel_26, if_pos (Int32.le_refl _)]
theorem e7_pins (h : MTx τ l X) {c : Nat} (h0 : τ.1 0 0 = nI c) (hc : c ≤ 8) (hl : c + 1 + c = l) (p0 : ∀ i, i < c → pnB (X i) = true) (p1 : ∀ i, i < c → pnB (X (c + 1 + i)) = true) (k : xSt → Option (Int32 × xSt)) : ∃ τ', (∀ i, i < 2 * c → τ'.1 1 i = tI (nwP X c i)) ∧ Fr (sR 1) τ τ' ∧ f_X7_channel_25 k FU (nI 0) τ = k τ' := by
  refine (lpI (fun m (a : Int32 × xSt) => f_X7_channel_25 k m a.1 a.2) (fun i a => a.1 = nI i ∧ (∀ j, j < 2 * i → a.2.1 1 j = tI (nwP X c j)) ∧ Fr (sR 1) τ a.2) c (fun a => k a.2) (by omega) (fun m i a hi ha => ?_) (fun m a ha => ?_) (nI 0, τ) ⟨rfl, fun j hj => by omega, Fr.rf⟩).elim (fun a' hh => ⟨a'.2, hh.1.2.1, hh.1.2.2, hh.2⟩)
  · obtain ⟨w, s⟩ := a
    obtain ⟨h1, h2, h3⟩ := ha
    have h1' : w = nI i := h1
    subst h1'
    have hs := h.f1 h3
    have g0 : s.1 0 0 = nI c := (h3.1 0 0 rfl).trans h0
    have f1 : Fr (sR 1) s (up2 s 1 (2 * i) (tI (pv (X i)))) := Fr.up rfl
    have hs1 := hs.f1 f1
    have g1 : (up2 s 1 (2 * i) (tI (pv (X i)))).1 0 0 = nI c := (f1.1 0 0 rfl).trans g0
    have f2 : Fr (sR 1) (up2 s 1 (2 * i) (tI (pv (X i)))) (up2 (up2 s 1 (2 * i) (tI (pv (X i)))) 1 (2 * i + 1) (tI (pv (X (c + 1 + i))))) := Fr.up rfl
    refine ⟨(nI (i + 1), up2 (up2 s 1 (2 * i) (tI (pv (X i)))) 1 (2 * i + 1) (tI (pv (X (c + 1 + i))))), ⟨rfl, fun j hj => ?_, h3.tr (f1.tr f2)⟩, ?_⟩
    · by_cases q1 : j = 2 * i + 1
      · subst q1
        rw [nwP_1]; exact up2_same _ _ _ _
      · have e1 : (up2 (up2 s 1 (2 * i) (tI (pv (X i)))) 1 (2 * i + 1) (tI (pv (X (c + 1 + i))))).1 1 j = (up2 s 1 (2 * i) (tI (pv (X i)))).1 1 j := up2_place _ _ _ _ q1
        rw [show ((nI (i + 1), up2 (up2 s 1 (2 * i) (tI (pv (X i)))) 1 (2 * i + 1) (tI (pv (X (c + 1 + i))))) : Int32 × xSt).2.1 1 j = (up2 s 1 (2 * i) (tI (pv (X i)))).1 1 j from e1]
        by_cases q0 : j = 2 * i
        · subst q0
          rw [nwP_0]; exact up2_same _ _ _ _
        · rw [up2_place _ _ _ _ q0]; exact h2 j (by omega)
    · show f_X7_channel_25 k (m + 1) (nI i) s = f_X7_channel_25 k m (nI (i + 1)) _
      have m2 : (2 : Int32) * nI i = nI (2 * i) := mulI 2 i
      rw [f_X7_channel_25, g0, if_neg (xn_le hi (by omega)), gi_nI (by omega) (by omega), nI_clS (by omega), (hs.2.2 i (by omega)).1, e7_netBy (p0 i hi), bnd_some, m2, gi_nI (by omega) (by omega), vb_def, nI_clS (by omega), g1, xn_s c, nI_add, gi_nI (by omega) (by omega), nI_clS (by omega), (hs1.2.2 (c + 1 + i) (by omega)).1, e7_netBy (p1 i hi), bnd_some, xn_s, gi_nI (by omega) (by omega), vb_def, nI_clS (by omega), xn_s]
  · obtain ⟨w, s⟩ := a
    have h1' : w = nI c := ha.1
    subst h1'
    have g0 : s.1 0 0 = nI c := (ha.2.2.1 0 0 rfl).trans h0
    show f_X7_channel_25 k (m + 1) (nI c) s = _
    rw [f_X7_channel_25, g0, if_pos (Int32.le_refl _)]
end
