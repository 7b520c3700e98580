/-! ===== the class's search ===== -/
section
variable {σ : xSt} {n N : Nat} {P T ne fi la B F : Nat → Nat}
def CLv (σ : xSt) (N : Nat) (B : Nat → Nat) : Prop := ∀ s, s < N → σ.1 11 s = nI (lvl (prd B N) N s) ∧ σ.1 12 s = nI (lvl B N s)
theorem CLv.f29 {σ' : xSt} (h : CLv σ N B) (hf : Fr (sR 29) σ σ') : CLv σ' N B := fun s hs => ⟨(hf.1 11 s rfl).trans (h s hs).1, (hf.1 12 s rfl).trans (h s hs).2⟩
theorem CTr.ext {T' : Nat → Nat} (h : CTr σ N T) (he : ∀ s, T s = T' s) : CTr σ N T' := by
  have : T = T' := funext he
  rw [← this]; exact h
theorem e1_placeFrom {D : Nat} (hD : D ≤ 8) (hr : rnd (prd B N) N ≤ D) (hN8 : N ≤ 8) : ∀ (m k : Nat) (T : Nat → Nat) (σ : xSt) (d : Nat), k + m = N → m < d → CS σ 5 N ne fi la → CB σ 5 N B → CLv σ N B → CTr σ N T → (∀ s, k ≤ s → s < N → T s = 0) →
    ∃ σ', f_X1_placeFrom d (nI k) (nI D) σ = some (b2i (sr (gat B N D) (fitB ne fi la B) D m k T).isSome, σ') ∧ CTr σ' N ((sr (gat B N D) (fitB ne fi la B) D m k T).getD T) ∧ Fr (sR 29) σ σ' := by
  intro m
  induction m with
  | zero =>
    intro k T σ d hk hd h hB hL hT h0
    obtain ⟨d, rfl⟩ : ∃ d0, d = d0 + 1 := ⟨d - 1, by omega⟩
    have : k = N := by omega
    subst this
    refine ⟨σ, ?_, hT, Fr.rf⟩
    have hh := h.1
    show f_X1_placeFrom_b _ _ _ _ = _
    simp (disch := omega) only [lit_nI, nI_leS, nI_ltS, nI_eqS, nI_clS, nI_add, mulI, tI_leS, tI_ltS, tI_eqS, tI_m1, nI_m1, tI_eqn, tI_eqn2, tI_ltn, tI_nle, tI_len, tI_nlt, gi_nI, gi_lit, gz_nI, bnd_some, jn_def, vb_def, if_true, if_false, b2i_0, b2i_1, b2i_t, b2i_f, gb_b2i, gb_n0, gb_n1, bitN, bit0N, sh1N, orI, andI, e7_within, ite_self, n10, n01, Bool.true_eq_false, Bool.false_eq_true, f_X1_placeFrom_b, hh, Nat.le_refl]
    rfl
  | succ m ih =>
    intro k T σ d hk hd h hB hL hT h0
    obtain ⟨d, rfl⟩ : ∃ d0, d = d0 + 1 := ⟨d - 1, by omega⟩
    have hN := h.2.1
    have hkN : k < N := by omega
    have hTk : T k = 0 := h0 k (Nat.le_refl k) hkN
    have hlv := lv_rnd (B := B) hkN
    have hht := ht_rnd (B := B) hkN
    obtain ⟨lv1, lv2⟩ := hL k hkN
    generalize hf : (fun v => if (gat B N D k v && fitB ne fi la B (stT T k v) k) = true then sr (gat B N D) (fitB ne fi la B) D m (k + 1) (stT T k v) else none) = f
    have hfv : ∀ v, f v = if (gat B N D k v && fitB ne fi la B (stT T k v) k) = true then sr (gat B N D) (fitB ne fi la B) D m (k + 1) (stT T k v) else none := fun v => by rw [← hf]
    have hga : ∀ v, gat B N D k v = (decide (lvl (prd B N) N k + 1 ≤ v) && decide (v + lvl B N k ≤ D)) := fun v => rfl
    generalize lvl (prd B N) N k = lv at *
    generalize lvl B N k = ht at *
    have e : sr (gat B N D) (fitB ne fi la B) D (m + 1) k T = sc f (D - lv) lv := by
      have h1 : sr (gat B N D) (fitB ne fi la B) D (m + 1) k T = sc f D 0 := by rw [sr, ← hf]
      have h2 := sc_skip (f := f) (d := D - lv) (j := lv) (a := 0) (fun v h1 h2 => by
        rw [hfv, hga, decide_eq_false (show ¬ lv + 1 ≤ v by omega)]; rfl)
      rw [show lv + (D - lv) = D by omega, Nat.zero_add] at h2
      rw [h1, h2]
    have main : ∀ (kk : xSt → Option (Int32 × xSt)) (j u : Nat), D ≤ u + j + ht → u ≤ D → lv ≤ u → ∀ (q : Nat) (τ : xSt) (x : Nat), j < q → Fr (sR 29) σ τ → CTr τ N (stT T k x) →
        ∃ τ', Fr (sR 29) σ τ' ∧ ((∃ T', sc f (D - u) u = some T' ∧ CTr τ' N T' ∧ f_X1_placeFrom_24 (f_X1_placeFrom d) (nI k) (nI D) kk q (nI u) τ = some (nI 1, τ')) ∨ (sc f (D - u) u = none ∧ (∃ x, CTr τ' N (stT T k x)) ∧ f_X1_placeFrom_24 (f_X1_placeFrom d) (nI k) (nI D) kk q (nI u) τ = kk τ')) := by
      intro kk j
      induction j with
      | zero =>
        intro u hu huD hlu q τ x hq hfr hM
        obtain ⟨q, rfl⟩ : ∃ q0, q = q0 + 1 := ⟨q - 1, by omega⟩
        have hsc : sc f (D - u) u = none := sc_none (fun v h1 h2 => by
          rw [hfv, hga, decide_eq_false (show ¬ v + ht ≤ D by omega), Bool.and_false]; rfl)
        refine ⟨τ, hfr, Or.inr ⟨hsc, ⟨x, hM⟩, ?_⟩⟩
        have l2 : τ.1 12 k = nI ht := (hfr.1 12 k rfl).trans lv2
        have c1 : D - ht ≤ u := by omega
        have s1 : nI D - nI ht = nI (D - ht) := subI (by omega)
        simp (disch := omega) only [lit_nI, nI_leS, nI_ltS, nI_eqS, nI_clS, nI_add, mulI, tI_leS, tI_ltS, tI_eqS, tI_m1, nI_m1, tI_eqn, tI_eqn2, tI_ltn, tI_nle, tI_len, tI_nlt, gi_nI, gi_lit, gz_nI, bnd_some, jn_def, vb_def, if_true, if_false, b2i_0, b2i_1, b2i_t, b2i_f, gb_b2i, gb_n0, gb_n1, bitN, bit0N, sh1N, orI, andI, e7_within, ite_self, n10, n01, Bool.true_eq_false, Bool.false_eq_true, f_X1_placeFrom_24, l2, s1, c1]
      | succ j ihj =>
        intro u hu huD hlu q τ x hq hfr hM
        obtain ⟨q, rfl⟩ : ∃ q0, q = q0 + 1 := ⟨q - 1, by omega⟩
        have l2 : τ.1 12 k = nI ht := (hfr.1 12 k rfl).trans lv2
        have s1 : nI D - nI ht = nI (D - ht) := subI (by omega)
        rcases Nat.lt_or_ge u (D - ht) with hlt | hge
        · have c1 : ¬ D - ht ≤ u := by omega
          have hset : CTr (up2 τ 29 k (nI u)) N (stT T k (u + 1)) := by
            have := hM.set (s := k) (v := u + 1) hkN (by omega)
            rw [stT_2, tI_succ] at this
            exact this
          have f1 : Fr (sR 29) τ (up2 τ 29 k (nI u)) := Fr.up (by simp [sR])
          have f2 := hfr.tr f1
          have g := e1_fitsBefore (T := stT T k (u + 1)) (h.f29 f2) (hB.f29 f2) hkN (fun t ht => hset.1 t (by omega))
          change f_X1_fitsBefore (nI k) _ = some (b2i (fitB ne fi la B (stT T k (u + 1)) k), _) at g
          have hgt : gat B N D k (u + 1) = true := by
            rw [hga, decide_eq_true (show lv + 1 ≤ u + 1 by omega), decide_eq_true (show u + 1 + ht ≤ D by omega)]; rfl
          have hd1 : D - u = D - (u + 1) + 1 := by omega
          rw [hd1]
          by_cases qf : fitB ne fi la B (stT T k (u + 1)) k = true
          · have hfu : f (u + 1) = sr (gat B N D) (fitB ne fi la B) D m (k + 1) (stT T k (u + 1)) := by
              rw [hfv, hgt, qf]; rfl
            obtain ⟨τ2, j1, j2, j3⟩ := ih (k + 1) (stT T k (u + 1)) (up2 τ 29 k (nI u)) d (by omega) (by omega) (h.f29 f2) (hB.f29 f2) (hL.f29 f2) hset (fun s h1 h2 => by rw [stT_ne (by omega)]; exact h0 s (by omega) h2)
            rw [qf] at g
            cases hs : sr (gat B N D) (fitB ne fi la B) D m (k + 1) (stT T k (u + 1)) with
            | some T' =>
              rw [hs] at j1 j2
              refine ⟨τ2, f2.tr j3, Or.inl ⟨T', sc_some (by rw [hfu, hs]), j2, ?_⟩⟩
              simp (disch := omega) only [lit_nI, nI_leS, nI_ltS, nI_eqS, nI_clS, nI_add, mulI, tI_leS, tI_ltS, tI_eqS, tI_m1, nI_m1, tI_eqn, tI_eqn2, tI_ltn, tI_nle, tI_len, tI_nlt, gi_nI, gi_lit, gz_nI, bnd_some, jn_def, vb_def, if_true, if_false, b2i_0, b2i_1, b2i_t, b2i_f, gb_b2i, gb_n0, gb_n1, bitN, bit0N, sh1N, orI, andI, e7_within, ite_self, n10, n01, Bool.true_eq_false, Bool.false_eq_true, f_X1_placeFrom_24, l2, s1, c1, g, j1, Option.isSome]
            | none =>
              rw [hs] at j1 j2
              obtain ⟨τ3, p1, p2⟩ := ihj (u + 1) (by omega) (by omega) (by omega) q τ2 (u + 1) (by omega) (f2.tr j3) j2
              have hstep : f_X1_placeFrom_24 (f_X1_placeFrom d) (nI k) (nI D) kk (q + 1) (nI u) τ = f_X1_placeFrom_24 (f_X1_placeFrom d) (nI k) (nI D) kk q (nI (u + 1)) τ2 := by
                simp (disch := omega) only [lit_nI, nI_leS, nI_ltS, nI_eqS, nI_clS, nI_add, mulI, tI_leS, tI_ltS, tI_eqS, tI_m1, nI_m1, tI_eqn, tI_eqn2, tI_ltn, tI_nle, tI_len, tI_nlt, gi_nI, gi_lit, gz_nI, bnd_some, jn_def, vb_def, if_true, if_false, b2i_0, b2i_1, b2i_t, b2i_f, gb_b2i, gb_n0, gb_n1, bitN, bit0N, sh1N, orI, andI, e7_within, ite_self, n10, n01, Bool.true_eq_false, Bool.false_eq_true, f_X1_placeFrom_24, l2, s1, c1, g, j1, Option.isSome]
              rw [hstep, sc_nx (by rw [hfu, hs])]
              exact ⟨τ3, p1, p2⟩
          · have qf' : fitB ne fi la B (stT T k (u + 1)) k = false := by simpa using qf
            have hfu : f (u + 1) = none := by rw [hfv, qf', Bool.and_false]; rfl
            rw [qf'] at g
            obtain ⟨τ3, p1, p2⟩ := ihj (u + 1) (by omega) (by omega) (by omega) q (up2 τ 29 k (nI u)) (u + 1) (by omega) f2 hset
            have hstep : f_X1_placeFrom_24 (f_X1_placeFrom d) (nI k) (nI D) kk (q + 1) (nI u) τ = f_X1_placeFrom_24 (f_X1_placeFrom d) (nI k) (nI D) kk q (nI (u + 1)) (up2 τ 29 k (nI u)) := by
              simp (disch := omega) only [lit_nI, nI_leS, nI_ltS, nI_eqS, nI_clS, nI_add, mulI, tI_leS, tI_ltS, tI_eqS, tI_m1, nI_m1, tI_eqn, tI_eqn2, tI_ltn, tI_nle, tI_len, tI_nlt, gi_nI, gi_lit, gz_nI, bnd_some, jn_def, vb_def, if_true, if_false, b2i_0, b2i_1, b2i_t, b2i_f, gb_b2i, gb_n0, gb_n1, bitN, bit0N, sh1N, orI, andI, e7_within, ite_self, n10, n01, Bool.true_eq_false, Bool.false_eq_true, f_X1_placeFrom_24, l2, s1, c1, g]
            rw [hstep, sc_nx hfu]
            exact ⟨τ3, p1, p2⟩
        · have hsc : sc f (D - u) u = none := sc_none (fun v h1 h2 => by
            rw [hfv, hga, decide_eq_false (show ¬ v + ht ≤ D by omega), Bool.and_false]; rfl)
          refine ⟨τ, hfr, Or.inr ⟨hsc, ⟨x, hM⟩, ?_⟩⟩
          have c1 : D - ht ≤ u := by omega
          simp (disch := omega) only [lit_nI, nI_leS, nI_ltS, nI_eqS, nI_clS, nI_add, mulI, tI_leS, tI_ltS, tI_eqS, tI_m1, nI_m1, tI_eqn, tI_eqn2, tI_ltn, tI_nle, tI_len, tI_nlt, gi_nI, gi_lit, gz_nI, bnd_some, jn_def, vb_def, if_true, if_false, b2i_0, b2i_1, b2i_t, b2i_f, gb_b2i, gb_n0, gb_n1, bitN, bit0N, sh1N, orI, andI, e7_within, ite_self, n10, n01, Bool.true_eq_false, Bool.false_eq_true, f_X1_placeFrom_24, l2, s1, c1]
    have hM0 : CTr σ N (stT T k 0) := by rw [← hTk, stT_id]; exact hT
    have hFU := FU_big
    have hh := h.1
    have c0 : ¬ N ≤ k := by omega
    have c8 : k < 8 := by omega
    obtain ⟨τ, p1, p2⟩ := main (fun (s28 : xSt) => gi (nI k) 14 (vb (up2 s28 29 (nI k).toNatClampNeg (-1)) (fun s29 => gb 0 (some (0, s29))))) D lv (by omega) (by omega) (Nat.le_refl _) FU σ 0 (by omega) Fr.rf hM0
    have hcall : ∀ x, f_X1_placeFrom_24 (f_X1_placeFrom d) (nI k) (nI D) (fun (s28 : xSt) => gi (nI k) 14 (vb (up2 s28 29 (nI k).toNatClampNeg (-1)) (fun s29 => gb 0 (some (0, s29))))) FU (nI lv) σ = x → f_X1_placeFrom (d + 1) (nI k) (nI D) σ = x := by
      intro x hx
      show f_X1_placeFrom_b _ _ _ _ = _
      rw [f_X1_placeFrom_b, jn_def, hh, if_neg (xn_le (by omega) (by omega)), if_pos (show nI k < (8 : Int32) from xy_lt (b := 8) c8 (by omega)), gi_nI (by omega) (by omega), vb_def, nI_clS (by omega), lv1]
      rw [nI_clS (by omega)] at hx
      exact hx
    rw [e]
    rcases p2 with ⟨T', r1, r2, r3⟩ | ⟨r1, ⟨x, r2⟩, r3⟩
    · rw [r1]
      exact ⟨τ, hcall _ r3, r2, p1⟩
    · rw [r1]
      refine ⟨up2 τ 29 k (-nI 1), hcall _ (r3.trans ?_), ?_, p1.tr (Fr.up (by simp [sR]))⟩
      · simp (disch := omega) only [lit_nI, nI_leS, nI_ltS, nI_eqS, nI_clS, nI_add, mulI, tI_leS, tI_ltS, tI_eqS, tI_m1, nI_m1, tI_eqn, tI_eqn2, tI_ltn, tI_nle, tI_len, tI_nlt, gi_nI, gi_lit, gz_nI, bnd_some, jn_def, vb_def, if_true, if_false, b2i_0, b2i_1, b2i_t, b2i_f, gb_b2i, gb_n0, gb_n1, bitN, bit0N, sh1N, orI, andI, e7_within, ite_self, n10, n01, Bool.true_eq_false, Bool.false_eq_true]
        rfl
      · have := r2.set (s := k) (v := 0) hkN (by omega)
        rw [stT_2, tI_0, ← hTk, stT_id] at this
        exact this
theorem e1_fillBest (h : CS σ 5 N ne fi la) (hB : CB σ 5 N B) (hL : CLv σ N B) (hself : ∀ s, s < N → (B s).testBit s = false) (ha : ¬ cyc B N) (hN8 : N ≤ 8) {l : Nat} (hl1 : rnd (prd B N) N ≤ l) (hl2 : l ≤ bsD ne fi la B N) : ∃ σ' T', bst ne fi la B N (bsD ne fi la B N) = some T' ∧ f_X1_fillBest (nI l) σ = some ((), σ') ∧ CTr σ' N T' ∧ Fr (sR 29) σ σ' := by
  have hle := bsD_le (ne := ne) (fi := fi) (la := la) (B := B) (N := N)
  obtain ⟨T', hT'⟩ := bsD_yes (ne := ne) (fi := fi) (la := la) ha
  obtain ⟨τ0, a1, a2, a3⟩ := e1_takeAllAway (σ := σ)
  have t0 : CTr τ0 N (fun _ => 0) := ⟨fun s hs => ⟨a2 s hs, Nat.zero_le _⟩, fun s _ _ => rfl⟩
  rw [f_X1_fillBest, a1, bnd_some]
  have one : ∀ (τ : xSt) (D : Nat), Fr (sR 29) σ τ → CTr τ N (fun _ => 0) → rnd (prd B N) N ≤ D → D ≤ 8 → ∃ τ', f_X1_placeFrom 9 (nI 0) (nI D) τ = some (b2i (bst ne fi la B N D).isSome, τ') ∧ CTr τ' N ((bst ne fi la B N D).getD (fun _ => 0)) ∧ Fr (sR 29) σ τ' := by
    intro τ D hf hT h1 h2
    obtain ⟨τ', j1, j2, j3⟩ := e1_placeFrom (ne := ne) (fi := fi) (la := la) (B := B) h2 h1 hN8 N 0 (fun _ => 0) τ 9 (by omega) (by omega) (h.f29 hf) (hB.f29 hf) (hL.f29 hf) hT (fun _ _ _ => rfl)
    rw [bst_gat hself]
    exact ⟨τ', j1, j2, hf.tr j3⟩
  obtain ⟨⟨y, τ⟩, q, ⟨i1, i2, i3⟩, i4⟩ := lpS (fun q (x : Int32 × xSt) => f_X1_fillBest_6 (fun s5 => some ((), s5)) q x.1 x.2) (fun i y => y.1 = nI (l + i) ∧ CTr y.2 N (fun _ => 0) ∧ Fr (sR 29) σ y.2) (bsD ne fi la B N - l) (by omega) (fun q i y hi hI => by
    obtain ⟨y1, τ⟩ := y
    obtain ⟨i1, i2, i3⟩ := hI
    dsimp only at i1 i2 i3 ⊢
    subst i1
    obtain ⟨τ', g1, g2, g3⟩ := one τ (l + i) i3 i2 (by omega) (by omega)
    rw [bsD_no (show l + i < bsD ne fi la B N by omega)] at g1 g2
    have hh := (h.f29 i3).1
    have c0 : ¬ N < l + i := by omega
    refine ⟨(nI (l + (i + 1)), τ'), ⟨rfl, g2, g3⟩, ?_⟩
    simp (disch := omega) only [lit_nI, nI_leS, nI_ltS, nI_eqS, nI_clS, nI_add, mulI, tI_leS, tI_ltS, tI_eqS, tI_m1, nI_m1, tI_eqn, tI_eqn2, tI_ltn, tI_nle, tI_len, tI_nlt, gi_nI, gi_lit, gz_nI, bnd_some, jn_def, vb_def, if_true, if_false, b2i_0, b2i_1, b2i_t, b2i_f, gb_b2i, gb_n0, gb_n1, bitN, bit0N, sh1N, orI, andI, e7_within, ite_self, n10, n01, Bool.true_eq_false, Bool.false_eq_true, f_X1_fillBest_6, hh, c0, g1, Option.isSome]
    rfl) (nI l, τ0) ⟨rfl, t0, a3⟩
  dsimp only at i1 i2 i3 i4
  subst i1
  rw [show l + (bsD ne fi la B N - l) = bsD ne fi la B N by omega] at i4
  obtain ⟨τ', g1, g2, g3⟩ := one τ (bsD ne fi la B N) i3 i2 (by omega) (by omega)
  rw [hT'] at g1 g2
  have hh := (h.f29 i3).1
  have c0 : ¬ N < bsD ne fi la B N := by omega
  refine ⟨τ', T', hT', ?_, g2, g3⟩
  refine Eq.trans i4 ?_
  simp (disch := omega) only [lit_nI, nI_leS, nI_ltS, nI_eqS, nI_clS, nI_add, mulI, tI_leS, tI_ltS, tI_eqS, tI_m1, nI_m1, tI_eqn, tI_eqn2, tI_ltn, tI_nle, tI_len, tI_nlt, gi_nI, gi_lit, gz_nI, bnd_some, jn_def, vb_def, if_true, if_false, b2i_0, b2i_1, b2i_t, b2i_f, gb_b2i, gb_n0, gb_n1, bitN, bit0N, sh1N, orI, andI, e7_within, ite_self, n10, n01, Bool.true_eq_false, Bool.false_eq_true, f_X1_fillBest_6, hh, c0, g1, Option.isSome]
end
