/-! ===== the reference's search ===== -/
theorem tI_up (a : Nat) : tI a + 1 = tI (a + 1) := by
  rw [tI_succ, tI]
  exact Int32.sub_add_cancel (nI a) 1
theorem stT_2 {T : Nat → Nat} {k a b : Nat} : stT (stT T k a) k b = stT T k b := by
  funext t
  by_cases q : t = k
  · subst q; rw [stT_at, stT_at]
  · rw [stT_ne q, stT_ne q, stT_ne q]
theorem stT_id {T : Nat → Nat} {k : Nat} : stT T k (T k) = T := by
  funext t
  by_cases q : t = k
  · subst q; rw [stT_at]
  · rw [stT_ne q]
def cst (D : Nat) : Nat → Nat
  | 0 => 0
  | m + 1 => D * (1 + cst D m) + 1
theorem cst_lt {D : Nat} (hD : D ≤ 8) : ∀ m, cst D m + 1 ≤ 10 ^ m
  | 0 => Nat.le_refl 1
  | m + 1 => by
    have ih := cst_lt hD m
    have h1 : D * (1 + cst D m) ≤ 8 * 10 ^ m := Nat.mul_le_mul hD (by omega)
    have h2 : 0 < 10 ^ m := Nat.pow_pos (by omega)
    show D * (1 + cst D m) + 1 + 1 ≤ 10 ^ (m + 1)
    rw [Nat.pow_succ]
    omega
def psR (N k : Nat) : Option (Nat → Nat) → Int32
  | some _ => nI N
  | none => tI k
section
variable {σ : xSt} {n N : Nat} {P T ne fi la B F : Nat → Nat}
theorem e7_goesOn (h : MS σ N ne fi la) (hB : MB σ N B) (hT : MT σ N T) {s : Nat} (hs : s < N) : f_X7_goesOn (nI s) σ = some (b2i (fitB ne fi la B T s), σ) := by
  have hN := h.2.1
  rw [f_X7_goesOn, fitB]
  refine lpF (fun m (a : Int32 × Int32) => f_X7_goesOn_4 (nI s) (fun e18 s19 => gb e18 (some (e18, s19))) m a.1 a.2 σ) (fun i => (b2i (alB (fun t => fine T ne fi la B t s) i), nI i)) s _ (by omega) (fun m i hi => ?_) (fun m => ?_)
  · have c0 : ¬ s ≤ i := by omega
    have e : alB (fun t => fine T ne fi la B t s) (i + 1) = (alB (fun t => fine T ne fi la B t s) i && fine T ne fi la B i s) := rfl
    rw [e]
    simp (disch := omega) only [lit_nI, nI_leS, nI_ltS, nI_eqS, nI_clS, nI_add, mulI, tI_leS, tI_ltS, tI_eqS, tI_m1, nI_m1, tI_eqn, tI_eqn2, tI_ltn, tI_nle, tI_len, tI_nlt, gi_nI, gi_lit, gz_nI, bnd_some, jn_def, vb_def, if_true, if_false, b2i_0, b2i_1, b2i_t, b2i_f, gb_b2i, gb_n0, gb_n1, bitN, bit0N, sh1N, orI, andI, e7_within, ite_self, n10, n01, Bool.true_eq_false, Bool.false_eq_true, f_X7_goesOn_4, c0, e7_isFine h hB (show i < N by omega) hs (hT i (by omega)) (hT s hs)]
    rcases Bool.eq_false_or_eq_true (alB (fun t => fine T ne fi la B t s) i) with b1 | b1 <;> rcases Bool.eq_false_or_eq_true (fine T ne fi la B i s) with b2 | b2 <;> simp [b1, b2, b2i_t, b2i_f, gb_n0, gb_n1, n10, n01, nI_eqS]
  · simp (disch := omega) only [lit_nI, nI_leS, nI_ltS, nI_eqS, nI_clS, nI_add, mulI, tI_leS, tI_ltS, tI_eqS, tI_m1, nI_m1, tI_eqn, tI_eqn2, tI_ltn, tI_nle, tI_len, tI_nlt, gi_nI, gi_lit, gz_nI, bnd_some, jn_def, vb_def, if_true, if_false, b2i_0, b2i_1, b2i_t, b2i_f, gb_b2i, gb_n0, gb_n1, bitN, bit0N, sh1N, orI, andI, e7_within, ite_self, n10, n01, Bool.true_eq_false, Bool.false_eq_true, f_X7_goesOn_4, Nat.le_refl]
theorem MT.set1 (hT : MT σ N T) {s v : Nat} (hv : v ≤ 14) {x : Int32} (hx : x = tI v) : MT (up2 σ 5 s x) N (stT T s v) := by rw [hx]; exact hT.set hv
theorem e7_inner (h : MS σ N ne fi la) (hB : MB σ N B) {k v D : Nat} (hk : k < N) (hD : D ≤ 8) (hv : v ≤ D) (hT : MT σ N (stT T k (v + 1))) : ∃ σ' w, v < w ∧ w ≤ D + 1 ∧ (∀ u, v < u → u < w → fitB ne fi la B (stT T k u) k = false) ∧ (w ≤ D → fitB ne fi la B (stT T k w) k = true) ∧ MT σ' N (stT T k w) ∧ Fr (sR 5) σ σ' ∧ ∀ kk, f_X7_findPlan_29 (nI D) (nI k) kk FU σ = kk σ' := by
  have hN := h.2.1
  have hl := fst_le (fun i => fitB ne fi la B (stT T k (v + 1 + i)) k) (D - v)
  have hno := fst_no (fun i => fitB ne fi la B (stT T k (v + 1 + i)) k) (D - v)
  have hyes := fst_yes (fun i => fitB ne fi la B (stT T k (v + 1 + i)) k) (D - v)
  generalize fst (fun i => fitB ne fi la B (stT T k (v + 1 + i)) k) (D - v) = e at *
  obtain ⟨τ, ⟨i1, i2⟩, i3⟩ := lpK (fun kk q (x : xSt) => f_X7_findPlan_29 (nI D) (nI k) kk q x) (fun i y => MT y N (stT T k (v + 1 + i)) ∧ Fr (sR 5) σ y) e (fun kk y => kk y) (by omega) (fun q i y hi hI => by
    obtain ⟨i1, i2⟩ := hI
    have t1 := (i1 k hk).1
    rw [stT_at] at t1
    have c0 : ¬ D + 1 ≤ v + 1 + i := by omega
    have g := e7_goesOn (h.f5 i2) (hB.f5 i2) i1 hk
    rw [hno i hi] at g
    have hx : tI (v + 1 + i) + nI 1 = tI (v + 1 + (i + 1)) := tI_up _
    have hset : MT (up2 y 5 k (tI (v + 1 + (i + 1)))) N (stT T k (v + 1 + (i + 1))) := by
      have := i1.set (s := k) (v := v + 1 + (i + 1)) (by omega)
      rw [stT_2] at this
      exact this
    refine ⟨up2 y 5 k (tI (v + 1 + (i + 1))), ⟨hset, i2.tr (Fr.up (by simp [sR]))⟩, fun kk => ?_⟩
    simp (disch := omega) only [lit_nI, nI_leS, nI_ltS, nI_eqS, nI_clS, nI_add, mulI, tI_leS, tI_ltS, tI_eqS, tI_m1, nI_m1, tI_eqn, tI_eqn2, tI_ltn, tI_nle, tI_len, tI_nlt, gi_nI, gi_lit, gz_nI, bnd_some, jn_def, vb_def, if_true, if_false, b2i_0, b2i_1, b2i_t, b2i_f, gb_b2i, gb_n0, gb_n1, bitN, bit0N, sh1N, orI, andI, e7_within, ite_self, n10, n01, Bool.true_eq_false, Bool.false_eq_true, f_X7_findPlan_29, t1, c0, g, hx]) (fun q y hI kk => by
    obtain ⟨i1, i2⟩ := hI
    have t1 := (i1 k hk).1
    rw [stT_at] at t1
    rcases Nat.lt_or_ge e (D - v) with h1 | h1
    · have c0 : ¬ D + 1 ≤ v + 1 + e := by omega
      have g := e7_goesOn (h.f5 i2) (hB.f5 i2) i1 hk
      rw [hyes h1] at g
      simp (disch := omega) only [lit_nI, nI_leS, nI_ltS, nI_eqS, nI_clS, nI_add, mulI, tI_leS, tI_ltS, tI_eqS, tI_m1, nI_m1, tI_eqn, tI_eqn2, tI_ltn, tI_nle, tI_len, tI_nlt, gi_nI, gi_lit, gz_nI, bnd_some, jn_def, vb_def, if_true, if_false, b2i_0, b2i_1, b2i_t, b2i_f, gb_b2i, gb_n0, gb_n1, bitN, bit0N, sh1N, orI, andI, e7_within, ite_self, n10, n01, Bool.true_eq_false, Bool.false_eq_true, f_X7_findPlan_29, t1, c0, g]
    · have c0 : D + 1 ≤ v + 1 + e := by omega
      simp (disch := omega) only [lit_nI, nI_leS, nI_ltS, nI_eqS, nI_clS, nI_add, mulI, tI_leS, tI_ltS, tI_eqS, tI_m1, nI_m1, tI_eqn, tI_eqn2, tI_ltn, tI_nle, tI_len, tI_nlt, gi_nI, gi_lit, gz_nI, bnd_some, jn_def, vb_def, if_true, if_false, b2i_0, b2i_1, b2i_t, b2i_f, gb_b2i, gb_n0, gb_n1, bitN, bit0N, sh1N, orI, andI, e7_within, ite_self, n10, n01, Bool.true_eq_false, Bool.false_eq_true, f_X7_findPlan_29, t1, c0]) σ ⟨hT, Fr.rf⟩
  refine ⟨τ, v + 1 + e, by omega, by omega, fun u h1 h2 => ?_, fun h1 => hyes (by omega), i1, i2, i3⟩
  have := hno (u - v - 1) (by omega)
  have e1 : v + 1 + (u - v - 1) = u := by omega
  rw [e1] at this
  exact this
theorem MT.ext {T' : Nat → Nat} (h : MT σ N T) (he : ∀ s, s < N → T s = T' s) : MT σ N T' := fun s hs => by rw [← he s hs]; exact h s hs
theorem e7_dfs {D : Nat} (hD : D ≤ 8) (kk : Int32 → xSt → Option (Int32 × xSt)) : ∀ (m k : Nat) (T : Nat → Nat) (σ : xSt) (q : Nat), k + m = N → MS σ N ne fi la → MB σ N B → MT σ N T → (∀ s, k ≤ s → s < N → T s = 0) → cst D m ≤ q →
    ∃ σ' q', q ≤ q' + cst D m ∧ Fr (sR 5) σ σ' ∧ f_X7_findPlan_7 (nI D) kk q (nI k) σ = f_X7_findPlan_7 (nI D) kk q' (psR N k (sr (fun _ _ => true) (fitB ne fi la B) D m k T)) σ' ∧ MT σ' N ((sr (fun _ _ => true) (fitB ne fi la B) D m k T).getD T) := by
  intro m
  induction m with
  | zero =>
    intro k T σ q hk h hB hT h0 hq
    have : k = N := by omega
    subst this
    exact ⟨σ, q, by omega, Fr.rf, rfl, hT⟩
  | succ m ih =>
    intro k T σ q hk h hB hT h0 hq
    have hN := h.2.1
    have hkN : k < N := by omega
    have hTk : T k = 0 := h0 k (Nat.le_refl k) hkN
    generalize hf : (fun v => if (true && fitB ne fi la B (stT T k v) k) = true then sr (fun _ _ => true) (fitB ne fi la B) D m (k + 1) (stT T k v) else none) = f
    have hfv : ∀ v, f v = if (true && fitB ne fi la B (stT T k v) k) = true then sr (fun _ _ => true) (fitB ne fi la B) D m (k + 1) (stT T k v) else none := fun v => by rw [← hf]
    have main : ∀ d0 d v, d ≤ d0 → v + d = D → ∀ (τ : xSt) (q : Nat), Fr (sR 5) σ τ → MT τ N (stT T k v) → d * (1 + cst D m) + 1 ≤ q →
        ∃ τ' q', q ≤ q' + (d * (1 + cst D m) + 1) ∧ Fr (sR 5) σ τ' ∧ f_X7_findPlan_7 (nI D) kk q (nI k) τ = f_X7_findPlan_7 (nI D) kk q' (psR N k (sc f d v)) τ' ∧ MT τ' N ((sc f d v).getD T) := by
      intro d0
      induction d0 with
      | zero =>
        intro d v hd hv τ q hfr hM hq
        obtain ⟨q, rfl⟩ : ∃ q0, q = q0 + 1 := ⟨q - 1, by omega⟩
        have hd0 : d = 0 := by omega
        subst hd0
        have hvD : v = D := by omega
        subst hvD
        have t1 := (hM k hkN).1
        rw [stT_at] at t1
        have hset : MT (up2 τ 5 k (tI (v + 1))) N (stT T k (v + 1)) := by
          have := hM.set (s := k) (v := v + 1) (by omega)
          rw [stT_2] at this
          exact this
        have f1 : Fr (sR 5) τ (up2 τ 5 k (tI (v + 1))) := Fr.up (by simp [sR])
        obtain ⟨τ1, w, w1, w2, w3, w4, w5, w6, w7⟩ := e7_inner (h.f5 (hfr.tr f1)) (hB.f5 (hfr.tr f1)) hkN hD (Nat.le_refl v) hset
        have hw : w = v + 1 := by omega
        subst hw
        have t2 := (w5 k hkN).1
        rw [stT_at] at t2
        have hset2 : MT (up2 τ1 5 k (-nI 1)) N T := by
          have := w5.set (s := k) (v := 0) (by omega)
          rw [stT_2, tI_0, ← hTk, stT_id] at this
          exact this
        have c0 : ¬ N ≤ k := by omega
        have hx : tI v + nI 1 = tI (v + 1) := tI_up v
        have hy : nI k + -nI 1 = tI k := by rw [tI, Int32.sub_eq_add_neg]
        have h04 := (h.f5 hfr).1
        have cz : ¬ nI k < nI 0 := xn_lt (by omega) (by omega)
        refine ⟨up2 τ1 5 k (-nI 1), q, by omega, ((hfr.tr f1).tr w6).tr (Fr.up (by simp [sR])), ?_, hset2⟩
        show f_X7_findPlan_7 (nI v) kk (q + 1) (nI k) τ = f_X7_findPlan_7 (nI v) kk q (tI k) _
        have cc : v + 1 ≤ v + 1 := Nat.le_refl _
        have cz2 : ¬ k < 0 := by omega
        simp (disch := omega) only [lit_nI, nI_leS, nI_ltS, nI_eqS, nI_clS, nI_add, mulI, tI_leS, tI_ltS, tI_eqS, tI_m1, nI_m1, tI_eqn, tI_eqn2, tI_ltn, tI_nle, tI_len, tI_nlt, gi_nI, gi_lit, gz_nI, bnd_some, jn_def, vb_def, if_true, if_false, b2i_0, b2i_1, b2i_t, b2i_f, gb_b2i, gb_n0, gb_n1, bitN, bit0N, sh1N, orI, andI, e7_within, ite_self, n10, n01, Bool.true_eq_false, Bool.false_eq_true, f_X7_findPlan_7, h04, cz2, c0, t1, hx, w7, t2, cc, hy]
      | succ d0 ihd =>
        intro d v hd hv τ q hfr hM hq
        obtain ⟨q, rfl⟩ : ∃ q0, q = q0 + 1 := ⟨q - 1, by omega⟩
        have t1 := (hM k hkN).1
        rw [stT_at] at t1
        have hset : MT (up2 τ 5 k (tI (v + 1))) N (stT T k (v + 1)) := by
          have := hM.set (s := k) (v := v + 1) (by omega)
          rw [stT_2] at this
          exact this
        have f1 : Fr (sR 5) τ (up2 τ 5 k (tI (v + 1))) := Fr.up (by simp [sR])
        obtain ⟨τ1, w, w1, w2, w3, w4, w5, w6, w7⟩ := e7_inner (h.f5 (hfr.tr f1)) (hB.f5 (hfr.tr f1)) hkN hD (show v ≤ D by omega) hset
        have t2 := (w5 k hkN).1
        rw [stT_at] at t2
        have c0 : ¬ N ≤ k := by omega
        have cz2 : ¬ k < 0 := by omega
        have hx : tI v + nI 1 = tI (v + 1) := tI_up v
        have hy : nI k + -nI 1 = tI k := by rw [tI, Int32.sub_eq_add_neg]
        have h04 := (h.f5 hfr).1
        rcases Nat.lt_or_ge D w with hw | hw
        · have hset2 : MT (up2 τ1 5 k (-nI 1)) N T := by
            have := w5.set (s := k) (v := 0) (by omega)
            rw [stT_2, tI_0, ← hTk, stT_id] at this
            exact this
          have hsc : sc f d v = none := sc_none (fun u h1 h2 => by rw [hfv, w3 u h1 (by omega)]; rfl)
          refine ⟨up2 τ1 5 k (-nI 1), q, by omega, ((hfr.tr f1).tr w6).tr (Fr.up (by simp [sR])), ?_, by rw [hsc]; exact hset2⟩
          rw [hsc]
          show f_X7_findPlan_7 (nI D) kk (q + 1) (nI k) τ = f_X7_findPlan_7 (nI D) kk q (tI k) _
          have cc : D + 1 ≤ w := by omega
          simp (disch := omega) only [lit_nI, nI_leS, nI_ltS, nI_eqS, nI_clS, nI_add, mulI, tI_leS, tI_ltS, tI_eqS, tI_m1, nI_m1, tI_eqn, tI_eqn2, tI_ltn, tI_nle, tI_len, tI_nlt, gi_nI, gi_lit, gz_nI, bnd_some, jn_def, vb_def, if_true, if_false, b2i_0, b2i_1, b2i_t, b2i_f, gb_b2i, gb_n0, gb_n1, bitN, bit0N, sh1N, orI, andI, e7_within, ite_self, n10, n01, Bool.true_eq_false, Bool.false_eq_true, f_X7_findPlan_7, h04, cz2, c0, t1, hx, w7, t2, cc, hy]
        · have hfw : f w = sr (fun _ _ => true) (fitB ne fi la B) D m (k + 1) (stT T k w) := by
            rw [hfv, w4 hw]; rfl
          have f2 := (hfr.tr f1).tr w6
          have hX : 1 * (1 + cst D m) ≤ d * (1 + cst D m) := Nat.mul_le_mul (by omega) (Nat.le_refl _)
          obtain ⟨τ2, q2, j1, j2, j3, j4⟩ := ih (k + 1) (stT T k w) τ1 q (by omega) (h.f5 f2) (hB.f5 f2) w5 (fun s h1 h2 => by rw [stT_ne (by omega)]; exact h0 s (by omega) h2) (by omega)
          have step : f_X7_findPlan_7 (nI D) kk (q + 1) (nI k) τ = f_X7_findPlan_7 (nI D) kk q (nI (k + 1)) τ1 := by
            have cc : ¬ D + 1 ≤ w := by omega
            simp (disch := omega) only [lit_nI, nI_leS, nI_ltS, nI_eqS, nI_clS, nI_add, mulI, tI_leS, tI_ltS, tI_eqS, tI_m1, nI_m1, tI_eqn, tI_eqn2, tI_ltn, tI_nle, tI_len, tI_nlt, gi_nI, gi_lit, gz_nI, bnd_some, jn_def, vb_def, if_true, if_false, b2i_0, b2i_1, b2i_t, b2i_f, gb_b2i, gb_n0, gb_n1, bitN, bit0N, sh1N, orI, andI, e7_within, ite_self, n10, n01, Bool.true_eq_false, Bool.false_eq_true, f_X7_findPlan_7, h04, cz2, c0, t1, hx, w7, t2, cc]
          have hsk : sc f d v = sc f (D - w + 1) (w - 1) := by
            have := sc_skip (f := f) (d := D - w + 1) (j := w - 1 - v) (a := v) (fun u h1 h2 => by rw [hfv, w3 u h1 (by omega)]; rfl)
            rw [show w - 1 - v + (D - w + 1) = d by omega, show v + (w - 1 - v) = w - 1 by omega] at this
            exact this
          have hw1 : w - 1 + 1 = w := by omega
          cases hs : sr (fun _ _ => true) (fitB ne fi la B) D m (k + 1) (stT T k w) with
          | some T' =>
            rw [hs] at j3 j4
            have e : sc f d v = some T' := by rw [hsk]; exact sc_some (by rw [hw1, hfw, hs])
            rw [e]
            exact ⟨τ2, q2, by omega, f2.tr j2, step.trans j3, j4⟩
          | none =>
            rw [hs] at j3 j4
            have e : sc f d v = sc f (D - w) w := by rw [hsk, sc_nx (by rw [hw1, hfw, hs]), hw1]
            have j3' : f_X7_findPlan_7 (nI D) kk q (nI (k + 1)) τ1 = f_X7_findPlan_7 (nI D) kk q2 (nI k) τ2 := by
              rw [j3]; show f_X7_findPlan_7 (nI D) kk q2 (tI (k + 1)) τ2 = _; rw [tI_succ]
            have hY : (D - w) * (1 + cst D m) + 1 * (1 + cst D m) ≤ d * (1 + cst D m) := by
              rw [← Nat.add_mul]; exact Nat.mul_le_mul (by omega) (Nat.le_refl _)
            obtain ⟨τ3, q3, l1, l2, l3, l4⟩ := ihd (D - w) w (by omega) (by omega) τ2 q2 (f2.tr j2) j4 (by omega)
            rw [e]
            exact ⟨τ3, q3, by omega, l2, (step.trans j3').trans l3, l4⟩
    have hq' : D * (1 + cst D m) + 1 ≤ q := hq
    have hM0 : MT σ N (stT T k 0) := by rw [← hTk, stT_id]; exact hT
    obtain ⟨τ, q', l1, l2, l3, l4⟩ := main D D 0 (Nat.le_refl D) (by omega) σ q Fr.rf hM0 hq'
    have e : sr (fun _ _ => true) (fitB ne fi la B) D (m + 1) k T = sc f D 0 := by rw [sr, ← hf]
    rw [e]
    exact ⟨τ, q', l1, l2, l3, l4⟩
theorem e7_clearNow (h0 : σ.1 0 4 = nI N) (hN : N ≤ 14) (hT : MT σ N T) : ∃ σ', f_X7_clearNow σ = some (nI (cnt (fun s => !decide (T s = 0)) N), σ') ∧ (∀ s, s < 14 → σ'.1 5 s = -nI 1) ∧ Fr (sR 5) σ σ' := by
  obtain ⟨σ', a1, a2, _, a4⟩ := e7_away (σ := σ)
  refine ⟨σ', ?_, a1, a2⟩
  rw [f_X7_clearNow, e7_withTrack h0 hN hT, bnd_some]
  exact a4 _
theorem MT0 (hN : N ≤ 14) (h : ∀ s, s < 14 → σ.1 5 s = -nI 1) : MT σ N (fun _ => 0) := fun s hs => ⟨h s (by omega), Nat.zero_le _⟩
theorem e7_findPlan (h : MS σ N ne fi la) (hB : MB σ N B) (hT : MT σ N T) (hN8 : N ≤ 8) {D : Nat} (hD : D ≤ 8) : ∃ σ', f_X7_findPlan (nI D) σ = some (b2i (bst ne fi la B N D).isSome, σ') ∧ MT σ' N ((bst ne fi la B N D).getD (fun _ => 0)) ∧ Fr (sR 5) σ σ' := by
  obtain ⟨τ, a1, a2, a3⟩ := e7_clearNow h.1 h.2.1 hT
  rw [f_X7_findPlan, a1, bnd_some]
  have hc := cst_lt hD N
  have hp : 10 ^ N ≤ 10 ^ 8 := Nat.pow_le_pow_right (by omega) hN8
  have hFU := FU_big
  have hc8 : cst D N + 10 ≤ FU := by omega
  obtain ⟨τ', q', j1, j2, j3, j4⟩ := e7_dfs hD (fun (e9 : Int32) (s10 : xSt) => jn (fun (v11 : Int32) (s12 : xSt) => gb v11 (some (v11, s12))) (fun j13 => if e9 = (s10.1 0 4) then (j13 1 s10) else (j13 0 s10))) N 0 (fun _ => 0) τ FU (by omega) (h.f5 a3) (hB.f5 a3) (MT0 h.2.1 a2) (fun _ _ _ => rfl) (by omega)
  obtain ⟨q0, hq0⟩ : ∃ q0, q' = q0 + 1 := ⟨q' - 1, by omega⟩
  subst hq0
  refine ⟨τ', ?_, j4, a3.tr j2⟩
  refine Eq.trans j3 ?_
  have h04 := (h.f5 (a3.tr j2)).1
  show _ = some (b2i (sr (fun _ _ => true) (fitB ne fi la B) D N 0 fun _ => 0).isSome, τ')
  cases sr (fun _ _ => true) (fitB ne fi la B) D N 0 (fun _ => 0) with
  | some T' =>
    show f_X7_findPlan_7 (nI D) _ (q0 + 1) (nI N) τ' = _
    have cz2 : ¬ N < 0 := by omega
    simp (disch := omega) only [lit_nI, nI_leS, nI_ltS, nI_eqS, nI_clS, nI_add, mulI, tI_leS, tI_ltS, tI_eqS, tI_m1, nI_m1, tI_eqn, tI_eqn2, tI_ltn, tI_nle, tI_len, tI_nlt, gi_nI, gi_lit, gz_nI, bnd_some, jn_def, vb_def, if_true, if_false, b2i_0, b2i_1, b2i_t, b2i_f, gb_b2i, gb_n0, gb_n1, bitN, bit0N, sh1N, orI, andI, e7_within, ite_self, n10, n01, Bool.true_eq_false, Bool.false_eq_true, f_X7_findPlan_7, h04, cz2, Nat.le_refl, eq_self, Option.isSome]
  | none =>
    show f_X7_findPlan_7 (nI D) _ (q0 + 1) (tI 0) τ' = _
    have c1 : tI 0 < (0 : Int32) := by decide
    have c2 : ¬ tI 0 = nI N := by rw [tI_eqn (by omega) (by omega)]; omega
    rw [f_X7_findPlan_7, if_pos c1, jn_def, h04, if_neg c2]
    rfl
theorem e7_best47 (h : MS σ N ne fi la) (hB : MB σ N B) (hT : MT σ N T) (hN8 : N ≤ 8) (ha : ¬ cyc B N) : ∃ σ' T', bst ne fi la B N (bsD ne fi la B N) = some T' ∧ f_X7_best_47 (fun e14 s15 => some (e14, s15)) FU (nI 0) σ = some (nI (bsD ne fi la B N), σ') ∧ MT σ' N T' ∧ Fr (sR 5) σ σ' := by
  have hle := bsD_le (ne := ne) (fi := fi) (la := la) (B := B) (N := N)
  obtain ⟨T', hT'⟩ := bsD_yes (ne := ne) (fi := fi) (la := la) ha
  obtain ⟨⟨y, τ⟩, q, ⟨i1, ⟨T2, i2⟩, i3⟩, i4⟩ := lpS (fun q (x : Int32 × xSt) => f_X7_best_47 (fun e14 s15 => some (e14, s15)) q x.1 x.2) (fun i y => y.1 = nI i ∧ (∃ T2, MT y.2 N T2) ∧ Fr (sR 5) σ y.2) (bsD ne fi la B N) (by omega) (fun q i y hi hI => by
    obtain ⟨y1, τ⟩ := y
    obtain ⟨i1, ⟨T2, i2⟩, i3⟩ := hI
    dsimp only at i1 i2 i3 ⊢
    subst i1
    obtain ⟨τ', g1, g2, g3⟩ := e7_findPlan (h.f5 i3) (hB.f5 i3) i2 hN8 (show i ≤ 8 by omega)
    rw [bsD_no hi] at g1 g2
    refine ⟨(nI (i + 1), τ'), ⟨rfl, ⟨_, g2⟩, i3.tr g3⟩, ?_⟩
    simp (disch := omega) only [lit_nI, nI_leS, nI_ltS, nI_eqS, nI_clS, nI_add, mulI, tI_leS, tI_ltS, tI_eqS, tI_m1, nI_m1, tI_eqn, tI_eqn2, tI_ltn, tI_nle, tI_len, tI_nlt, gi_nI, gi_lit, gz_nI, bnd_some, jn_def, vb_def, if_true, if_false, b2i_0, b2i_1, b2i_t, b2i_f, gb_b2i, gb_n0, gb_n1, bitN, bit0N, sh1N, orI, andI, e7_within, ite_self, n10, n01, Bool.true_eq_false, Bool.false_eq_true, f_X7_best_47, g1, Option.isSome]) (nI 0, σ) ⟨rfl, ⟨T, hT⟩, Fr.rf⟩
  dsimp only at i1 i2 i3 i4
  subst i1
  obtain ⟨τ', g1, g2, g3⟩ := e7_findPlan (h.f5 i3) (hB.f5 i3) i2 hN8 (show bsD ne fi la B N ≤ 8 by omega)
  rw [hT'] at g1 g2
  refine ⟨τ', T', hT', ?_, g2, i3.tr g3⟩
  refine Eq.trans i4 ?_
  simp (disch := omega) only [lit_nI, nI_leS, nI_ltS, nI_eqS, nI_clS, nI_add, mulI, tI_leS, tI_ltS, tI_eqS, tI_m1, nI_m1, tI_eqn, tI_eqn2, tI_ltn, tI_nle, tI_len, tI_nlt, gi_nI, gi_lit, gz_nI, bnd_some, jn_def, vb_def, if_true, if_false, b2i_0, b2i_1, b2i_t, b2i_f, gb_b2i, gb_n0, gb_n1, bitN, bit0N, sh1N, orI, andI, e7_within, ite_self, n10, n01, Bool.true_eq_false, Bool.false_eq_true, f_X7_best_47, g1, Option.isSome]
end
