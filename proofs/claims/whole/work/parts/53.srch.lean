/-! ===== the search for a plan, pure ===== -/
def sc {α : Type} (f : Nat → Option α) : Nat → Nat → Option α
  | 0, _ => none
  | d + 1, v => match f (v + 1) with
    | some x => some x
    | none => sc f d (v + 1)
theorem sc_some {α : Type} {f : Nat → Option α} {d v : Nat} {x : α} (h : f (v + 1) = some x) : sc f (d + 1) v = some x := by
  rw [sc, h]
theorem sc_nx {α : Type} {f : Nat → Option α} {d v : Nat} (h : f (v + 1) = none) : sc f (d + 1) v = sc f d (v + 1) := by
  rw [sc, h]
theorem sc_skip {α : Type} {f : Nat → Option α} {d : Nat} : ∀ {j a : Nat}, (∀ v, a < v → v ≤ a + j → f v = none) → sc f (j + d) a = sc f d (a + j)
  | 0, a, _ => by rw [Nat.zero_add, Nat.add_zero]
  | j + 1, a, h => by
    rw [show j + 1 + d = (j + d) + 1 by omega, sc_nx (h (a + 1) (by omega) (by omega)), sc_skip (j := j) (a := a + 1) (fun v h1 h2 => h v (by omega) (by omega)), show a + 1 + j = a + (j + 1) by omega]
theorem sc_none {α : Type} {f : Nat → Option α} {d a : Nat} (h : ∀ v, a < v → v ≤ a + d → f v = none) : sc f d a = none := by
  have := sc_skip (d := 0) h
  rw [Nat.add_zero] at this
  rw [this]; rfl
theorem sc_congr {α : Type} {f g : Nat → Option α} : ∀ {d a : Nat}, (∀ v, a < v → v ≤ a + d → f v = g v) → sc f d a = sc g d a
  | 0, _, _ => rfl
  | d + 1, a, h => by
    have h1 := h (a + 1) (by omega) (by omega)
    have h2 := sc_congr (f := f) (g := g) (d := d) (a := a + 1) (fun v h1 h2 => h v (by omega) (by omega))
    rw [sc, sc, h1, h2]
theorem sc_in {α : Type} {f : Nat → Option α} {x : α} : ∀ {d a : Nat}, sc f d a = some x → ∃ v, a < v ∧ v ≤ a + d ∧ f v = some x
  | 0, _, h => by simp [sc] at h
  | d + 1, a, h => by
    cases hf : f (a + 1) with
    | some y =>
      rw [sc_some hf] at h
      exact ⟨a + 1, by omega, by omega, by rw [hf, h]⟩
    | none =>
      rw [sc_nx hf] at h
      obtain ⟨v, h1, h2, h3⟩ := sc_in h
      exact ⟨v, by omega, by omega, h3⟩
theorem sc_ne {α : Type} {f : Nat → Option α} {v : Nat} (hv : f v ≠ none) : ∀ {d a : Nat}, a < v → v ≤ a + d → sc f d a ≠ none
  | 0, a, h1, h2 => by omega
  | d + 1, a, h1, h2 => by
    cases hf : f (a + 1) with
    | some y => rw [sc_some hf]; simp
    | none =>
      rw [sc_nx hf]
      refine sc_ne hv ?_ (by omega)
      rcases Nat.lt_or_ge (a + 1) v with h3 | h3
      · exact h3
      · have : v = a + 1 := by omega
        subst this
        exact absurd hf hv
def sr (g : Nat → Nat → Bool) (F : (Nat → Nat) → Nat → Bool) (D : Nat) : Nat → Nat → (Nat → Nat) → Option (Nat → Nat)
  | 0, _, T => some T
  | m + 1, k, T => sc (fun v => if g k v && F (stT T k v) k then sr g F D m (k + 1) (stT T k v) else none) D 0
section
variable {F : (Nat → Nat) → Nat → Bool} {D N : Nat}
def loc (F : (Nat → Nat) → Nat → Bool) : Prop := ∀ T T' k, (∀ s, s ≤ k → T s = T' s) → F T k = F T' k
theorem stT_at {T : Nat → Nat} {k v : Nat} : stT T k v k = v := if_pos rfl
theorem stT_ne {T : Nat → Nat} {k v s : Nat} (h : s ≠ k) : stT T k v s = T s := if_neg h
theorem sr_sound (hF : loc F) {g : Nat → Nat → Bool} : ∀ {m k : Nat} {T T' : Nat → Nat}, sr g F D m k T = some T' → (∀ s, s < k → T' s = T s) ∧ (∀ s, k + m ≤ s → T' s = T s) ∧ ∀ s, k ≤ s → s < k + m → (1 ≤ T' s ∧ T' s ≤ D) ∧ F T' s = true ∧ g s (T' s) = true
  | 0, k, T, T', h => by
    have : T = T' := Option.some.inj h
    subst this
    exact ⟨fun _ _ => rfl, fun _ _ => rfl, fun s h1 h2 => by omega⟩
  | m + 1, k, T, T', h => by
    obtain ⟨v, h1, h2, h3⟩ := sc_in h
    by_cases q : (g k v && F (stT T k v) k) = true
    · rw [if_pos q] at h3
      obtain ⟨i1, i2, i3⟩ := sr_sound hF h3
      rw [Bool.and_eq_true] at q
      have hk : T' k = v := (i1 k (by omega)).trans stT_at
      refine ⟨fun s hs => (i1 s (by omega)).trans (stT_ne (by omega)), fun s hs => (i2 s (by omega)).trans (stT_ne (by omega)), fun s h4 h5 => ?_⟩
      rcases Nat.lt_or_ge k s with h6 | h6
      · exact i3 s (by omega) (by omega)
      · have : s = k := by omega
        subst this
        rw [hk]
        refine ⟨⟨by omega, by omega⟩, ?_, q.1⟩
        rw [hF T' (stT T s v) s (fun t ht => i1 t (by omega))]
        exact q.2
    · rw [if_neg q] at h3
      simp at h3
def vld (F : (Nat → Nat) → Nat → Bool) (D N : Nat) (T : Nat → Nat) : Prop := ∀ s, s < N → (1 ≤ T s ∧ T s ≤ D) ∧ F T s = true
theorem sr_compl (hF : loc F) {W : Nat → Nat} (hW : vld F D N W) : ∀ {m k : Nat} {T : Nat → Nat}, k + m = N → (∀ s, s < k → T s = W s) → sr (fun _ _ => true) F D m k T ≠ none
  | 0, k, T, _, _ => by simp [sr]
  | m + 1, k, T, hk, h => by
    obtain ⟨⟨w1, w2⟩, w3⟩ := hW k (by omega)
    have ha : ∀ s, s ≤ k → stT T k (W k) s = W s := fun s hs => by
      by_cases q : s = k
      · subst q; exact stT_at
      · rw [stT_ne q]; exact h s (by omega)
    refine sc_ne (v := W k) ?_ (by omega) (by omega)
    have e : F (stT T k (W k)) k = true := (hF _ W k ha).trans w3
    rw [e]
    exact sr_compl hF hW (by omega) (fun s hs => ha s (by omega))
theorem sr_eq (hF : loc F) {g : Nat → Nat → Bool} (hg : ∀ W, vld F D N W → ∀ s, s < N → g s (W s) = true) : ∀ {m k : Nat} {T : Nat → Nat}, k + m = N → (∀ s, s < k → (1 ≤ T s ∧ T s ≤ D) ∧ F T s = true) → sr (fun _ _ => true) F D m k T = sr g F D m k T
  | 0, _, _, _, _ => rfl
  | m + 1, k, T, hk, h => by
    refine sc_congr (fun v h1 h2 => ?_)
    by_cases q : F (stT T k v) k = true
    · have hpre : ∀ s, s < k + 1 → (1 ≤ stT T k v s ∧ stT T k v s ≤ D) ∧ F (stT T k v) s = true := fun s hs => by
        by_cases q1 : s = k
        · subst q1
          rw [stT_at]
          exact ⟨⟨by omega, by omega⟩, q⟩
        · rw [stT_ne q1, hF (stT T k v) T s (fun t ht => stT_ne (by omega))]
          exact h s (by omega)
      have ih := sr_eq hF hg (m := m) (k := k + 1) (T := stT T k v) (by omega) hpre
      rw [q]
      by_cases q2 : g k v = true
      · simp [q2, ih]
      · have : sr (fun _ _ => true) F D m (k + 1) (stT T k v) = none := by
          cases hs : sr (fun _ _ => true) F D m (k + 1) (stT T k v) with
          | none => rfl
          | some T' =>
            obtain ⟨i1, i2, i3⟩ := sr_sound hF hs
            have hv : vld F D N T' := fun s hs' => by
              rcases Nat.lt_or_ge s (k + 1) with h3 | h3
              · rw [i1 s h3, hF T' (stT T k v) s (fun t ht => i1 t (by omega))]
                exact hpre s h3
              · obtain ⟨j1, j2, _⟩ := i3 s h3 (by omega)
                exact ⟨j1, j2⟩
            have := hg T' hv k (by omega)
            rw [i1 k (by omega), stT_at] at this
            exact absurd this q2
        simp [q2, this]
    · simp [q]
end
section
variable {ne fi la B : Nat → Nat} {N D : Nat}
def fitB (ne fi la B : Nat → Nat) (T : Nat → Nat) (k : Nat) : Bool := alB (fun t => fine T ne fi la B t k) k
theorem alB_congr {p q : Nat → Bool} {N : Nat} (h : ∀ i, i < N → p i = q i) : alB p N = alB q N := fo_congr (fun i hi x => by rw [h i hi])
theorem fitB_loc : loc (fitB ne fi la B) := fun T T' k h => alB_congr (fun i hi => by
  rw [fine, fine, h i (by omega), h k (Nat.le_refl k)])
theorem fine_edge {T : Nat → Nat} {s t : Nat} (h : fine T ne fi la B s t = true) : ((B s).testBit t = true → T s < T t) ∧ ((B t).testBit s = true → T t < T s) ∧ (met ne fi la s t = true → T s ≠ T t) := by
  rw [fine] at h
  refine ⟨fun e => ?_, fun e => ?_, fun e => ?_⟩
  · simp [e] at h; exact h.1.2
  · simp [e] at h; exact h.2
  · simp [e] at h; exact h.1.1
theorem vld_pair {W : Nat → Nat} (hW : vld (fitB ne fi la B) D N W) {s t : Nat} (hs : s < N) (ht : t < N) (hn : s ≠ t) : ((B s).testBit t = true → W s < W t) ∧ (met ne fi la s t = true → W s ≠ W t) := by
  rcases Nat.lt_or_ge s t with h | h
  · have h1 := (hW t ht).2
    rw [fitB, alB_iff] at h1
    have h2 := fine_edge (h1 s h)
    exact ⟨h2.1, h2.2.2⟩
  · have h1 := (hW s hs).2
    rw [fitB, alB_iff] at h1
    have h2 := fine_edge (h1 t (by omega))
    exact ⟨h2.2.1, fun e => fun e2 => h2.2.2 (by rw [met_sym]; exact e) e2.symm⟩
theorem vld_wk (hself : ∀ s, s < N → (B s).testBit s = false) {W : Nat → Nat} (hW : vld (fitB ne fi la B) D N W) : ∀ {r s t : Nat}, wk B N r s t → W s + r ≤ W t
  | 0, s, t, h => by
    have : s = t := h.1
    subst this; omega
  | r + 1, s, t, h => by
    obtain ⟨u, h1, h2⟩ := h
    have := vld_wk hself hW h2
    have hn : s ≠ u := fun e => by
      have h3 := h1.1
      rw [← e, hself s h1.2.1] at h3
      exact absurd h3 (by decide)
    have := (vld_pair hW h1.2.1 h1.2.2 hn).1 h1.1
    omega
def gat (B : Nat → Nat) (N D s v : Nat) : Bool := decide (lvl (prd B N) N s + 1 ≤ v) && decide (v + lvl B N s ≤ D)
theorem lvl_le_N {V : Nat → Nat} {s : Nat} : lvl V N s ≤ N := cnt_le _ N
theorem lvl_wk {V : Nat → Nat} {s : Nat} (hs : s < N) : ∃ t, wk V N (lvl V N s) s t := pwB_iff.mp ((lvl_iff (V := V) lvl_le_N hs).mp (Nat.le_refl _))
theorem gat_ok (hself : ∀ s, s < N → (B s).testBit s = false) {W : Nat → Nat} (hW : vld (fitB ne fi la B) D N W) {s : Nat} (hs : s < N) : gat B N D s (W s) = true := by
  obtain ⟨t, ht⟩ := lvl_wk (V := B) hs
  obtain ⟨u, hu⟩ := lvl_wk (V := prd B N) hs
  have hu' := wk_rev (B := prd B N) (V := B) (fun a b => prd_eg.symm) hu
  have h1 := vld_wk hself hW ht
  have h2 := vld_wk hself hW hu'
  have h3 := (hW t (wk_lt ht).2).1
  have h4 := (hW u (wk_lt hu').1).1
  rw [gat, Bool.and_eq_true, decide_eq_true_eq, decide_eq_true_eq]
  constructor <;> omega
theorem vld_rnd (hself : ∀ s, s < N → (B s).testBit s = false) {W : Nat → Nat} (hW : vld (fitB ne fi la B) D N W) : rnd (prd B N) N ≤ D := mxN_le (fun s hs => by
  have := gat_ok hself hW hs
  rw [gat, Bool.and_eq_true, decide_eq_true_eq, decide_eq_true_eq] at this
  omega)
theorem ht_rnd {s : Nat} (hs : s < N) : lvl B N s + 1 ≤ rnd (prd B N) N := by
  obtain ⟨t, ht⟩ := lvl_wk (V := B) hs
  have h1 : wk (prd B N) N (lvl B N s) t s := wk_rev (B := B) (V := prd B N) (fun a b => prd_eg) ht
  have htN := (wk_lt ht).2
  have h2 : lvl B N s ≤ lvl (prd B N) N t := (lvl_iff (V := prd B N) lvl_le_N htN).mpr (pwB_iff.mpr ⟨s, h1⟩)
  have h3 : lvl (prd B N) N t + 1 ≤ rnd (prd B N) N := mxN_ge (f := fun s => lvl (prd B N) N s + 1) htN
  omega
theorem lv_rnd {s : Nat} (hs : s < N) : lvl (prd B N) N s + 1 ≤ rnd (prd B N) N := mxN_ge (f := fun s => lvl (prd B N) N s + 1) hs
/-- the bits of a set, in a row -/
theorem bits_row {x : Nat} : ∀ K, ∃ f : Nat → Nat, (∀ i, i < pc x K → f i < K ∧ x.testBit (f i) = true) ∧ ∀ i j, i < j → j < pc x K → f i ≠ f j
  | 0 => ⟨fun _ => 0, fun i h => absurd h (Nat.not_lt_zero i), fun i j _ h => absurd h (Nat.not_lt_zero j)⟩
  | K + 1 => by
    obtain ⟨f, f1, f2⟩ := bits_row (x := x) K
    have e : pc x (K + 1) = pc x K + (if x.testBit K then 1 else 0) := rfl
    by_cases q : x.testBit K = true
    · rw [e, if_pos q]
      refine ⟨fun i => if i < pc x K then f i else K, fun i hi => ?_, fun i j h1 h2 => ?_⟩
      · dsimp only
        by_cases h : i < pc x K
        · rw [if_pos h]; exact ⟨by have := (f1 i h).1; omega, (f1 i h).2⟩
        · rw [if_neg h]; exact ⟨by omega, q⟩
      · dsimp only
        rw [if_pos (show i < pc x K by omega)]
        by_cases h : j < pc x K
        · rw [if_pos h]; exact f2 i j h1 h
        · rw [if_neg h]; have := (f1 i (by omega)).1; omega
    · rw [e, if_neg q, Nat.add_zero]
      exact ⟨f, fun i hi => ⟨by have := (f1 i hi).1; omega, (f1 i hi).2⟩, f2⟩
theorem vld_dens {n : Nat} {W : Nat → Nat} (hW : vld (fitB ne fi la B) D N W) : mxN (fun c => pc (xs ne fi la N c) 16) n ≤ D := mxN_le (fun c hc => by
  obtain ⟨f, f1, f2⟩ := bits_row (x := xs ne fi la N c) 16
  have hsg : ∀ w, (xs ne fi la N c).testBit w = true → ∃ s, s < N ∧ wi fi la s c = true ∧ ne s = w := fun w hw => by
    obtain ⟨s, h1, h2, h3⟩ := (msk_bit w).mp hw
    exact ⟨s, h1, h2, h3⟩
  have hch : ∃ h : Nat → Nat, ∀ i, i < pc (xs ne fi la N c) 16 → h i < N ∧ wi fi la (h i) c = true ∧ ne (h i) = f i := by
    refine ⟨fun i => if hi : i < pc (xs ne fi la N c) 16 then (hsg (f i) (f1 i hi).2).choose else 0, fun i hi => ?_⟩
    dsimp only
    rw [dif_pos hi]
    exact (hsg (f i) (f1 i hi).2).choose_spec
  obtain ⟨h, hh⟩ := hch
  refine fb_holes D _ (fun i => W (h i) - 1) (fun i hi => ?_) (fun i j hij hj => ?_)
  · have := (hW (h i) (hh i hi).1).1
    omega
  · obtain ⟨a1, a2, a3⟩ := hh i (by omega)
    obtain ⟨b1, b2, b3⟩ := hh j hj
    have hne : ne (h i) ≠ ne (h j) := by rw [a3, b3]; exact f2 i j hij hj
    have hm : met ne fi la (h i) (h j) = true := by
      rw [wi, Bool.and_eq_true, decide_eq_true_eq, decide_eq_true_eq] at a2 b2
      rw [met, Bool.and_eq_true, Bool.and_eq_true, Bool.not_eq_true', decide_eq_false_iff_not, decide_eq_true_eq, decide_eq_true_eq]
      exact ⟨hne, by omega, by omega⟩
    have h1 := (vld_pair hW a1 b1 (fun e => hne (by rw [e]))).2 hm
    have h2 := (hW (h i) a1).1
    have h3 := (hW (h j) b1).1
    omega)
/-- a plan on N tracks: by levels, then by numbers -/
def tpo (V : Nat → Nat) (N s : Nat) : Nat := cnt (fun t => decide (lvl V N t < lvl V N s) || (decide (lvl V N t = lvl V N s) && decide (t ≤ s))) N
theorem cnt_sub {p q : Nat → Bool} (h : ∀ i, p i = true → q i = true) : ∀ N, cnt p N ≤ cnt q N
  | 0 => Nat.le_refl 0
  | N + 1 => by
    have ih := cnt_sub h N
    have e1 : cnt p (N + 1) = cnt p N + (if p N then 1 else 0) := rfl
    have e2 : cnt q (N + 1) = cnt q N + (if q N then 1 else 0) := rfl
    rw [e1, e2]
    by_cases a : p N = true
    · rw [if_pos a, if_pos (h N a)]; omega
    · rw [if_neg a]; omega
theorem cnt_sub_lt {p q : Nat → Bool} (h : ∀ i, p i = true → q i = true) {j : Nat} (hp : p j = false) (hq : q j = true) : ∀ {N : Nat}, j < N → cnt p N < cnt q N
  | 0, hj => absurd hj (Nat.not_lt_zero _)
  | N + 1, hj => by
    have e1 : cnt p (N + 1) = cnt p N + (if p N then 1 else 0) := rfl
    have e2 : cnt q (N + 1) = cnt q N + (if q N then 1 else 0) := rfl
    rw [e1, e2]
    rcases Nat.lt_or_ge j N with h1 | h1
    · have := cnt_sub_lt h hp hq h1
      by_cases a : p N = true
      · rw [if_pos a, if_pos (h N a)]; omega
      · rw [if_neg a]; omega
    · have : j = N := by omega
      subst this
      have := cnt_sub h j
      rw [hp, hq]
      simp; omega
theorem tpo_lt {V : Nat → Nat} {s t : Nat} (hs : s < N) (ht : t < N) (h : lvl V N s < lvl V N t ∨ (lvl V N s = lvl V N t ∧ s < t)) : tpo V N s < tpo V N t := by
  refine cnt_sub_lt (fun i hi => ?_) (j := t) ?_ ?_ ht
  · simp only [Bool.or_eq_true, Bool.and_eq_true, decide_eq_true_eq] at hi ⊢
    omega
  · rw [Bool.or_eq_false_iff, Bool.and_eq_false_iff, decide_eq_false_iff_not, decide_eq_false_iff_not, decide_eq_false_iff_not]
    omega
  · simp
theorem vld_top (ha : ¬ cyc B N) : vld (fitB ne fi la B) N N (tpo (prd B N) N) := fun s hs => by
  have hV : ¬ cyc (prd B N) N := fun e => ha ((cyc_rev (fun s t => prd_eg)).mpr e)
  have h1 : 0 < tpo (prd B N) N s := by
    have : cnt (fun _ => false) N < tpo (prd B N) N s := cnt_sub_lt (fun i hi => Bool.noConfusion hi) (j := s) rfl (by simp) hs
    omega
  refine ⟨⟨h1, cnt_le _ N⟩, ?_⟩
  rw [fitB, alB_iff]
  intro t ht
  have hne : tpo (prd B N) N t ≠ tpo (prd B N) N s := by
    rcases Nat.lt_trichotomy (lvl (prd B N) N t) (lvl (prd B N) N s) with h | h | h
    · exact Nat.ne_of_lt (tpo_lt (by omega) hs (Or.inl h))
    · exact Nat.ne_of_lt (tpo_lt (by omega) hs (Or.inr ⟨h, ht⟩))
    · exact (Nat.ne_of_lt (tpo_lt hs (by omega) (Or.inl h))).symm
  have hed : ∀ a b, a < N → b < N → (B a).testBit b = true → tpo (prd B N) N a < tpo (prd B N) N b := fun a b h2 h3 h4 => tpo_lt h2 h3 (Or.inl (lvl_edge hV (prd_eg.mp ⟨h4, h2, h3⟩)))
  rw [fine]
  have e1 := hed t s (by omega) hs
  have e2 := hed s t hs (by omega)
  cases b1 : (B t).testBit s <;> cases b2 : (B s).testBit t <;> simp [hne] <;> first | exact e1 b1 | exact e2 b2 | exact ⟨e1 b1, e2 b2⟩
end
section
variable {ne fi la B : Nat → Nat} {N n : Nat}
/-- the fewest tracks, and the plan -/
def bst (ne fi la B : Nat → Nat) (N D : Nat) : Option (Nat → Nat) := sr (fun _ _ => true) (fitB ne fi la B) D N 0 (fun _ => 0)
def bsD (ne fi la B : Nat → Nat) (N : Nat) : Nat := fst (fun D => (bst ne fi la B N D).isSome) N
theorem bst_vld {D : Nat} {T : Nat → Nat} (h : bst ne fi la B N D = some T) : vld (fitB ne fi la B) D N T := fun s hs => by
  obtain ⟨_, _, i3⟩ := sr_sound fitB_loc h
  obtain ⟨j1, j2, _⟩ := i3 s (Nat.zero_le s) (by omega)
  exact ⟨j1, j2⟩
theorem bst_out {D : Nat} {T : Nat → Nat} (h : bst ne fi la B N D = some T) {s : Nat} (hs : N ≤ s) : T s = 0 := by
  obtain ⟨_, i2, _⟩ := sr_sound fitB_loc h
  exact i2 s (by omega)
theorem vld_bst {D : Nat} {W : Nat → Nat} (h : vld (fitB ne fi la B) D N W) : bst ne fi la B N D ≠ none := sr_compl fitB_loc h (by omega) (fun s hs => absurd hs (Nat.not_lt_zero s))
theorem bsD_le : bsD ne fi la B N ≤ N := fst_le _ N
theorem bsD_no {D : Nat} (h : D < bsD ne fi la B N) : bst ne fi la B N D = none := by
  have := fst_no (fun D => (bst ne fi la B N D).isSome) N D h
  simpa using this
theorem bsD_yes (ha : ¬ cyc B N) : ∃ T, bst ne fi la B N (bsD ne fi la B N) = some T := by
  rcases Nat.lt_or_ge (bsD ne fi la B N) N with h | h
  · have := fst_yes (fun D => (bst ne fi la B N D).isSome) N h
    exact Option.isSome_iff_exists.mp this
  · have he : bsD ne fi la B N = N := by have := bsD_le (ne := ne) (fi := fi) (la := la) (B := B) (N := N); omega
    rw [he]
    exact Option.ne_none_iff_exists'.mp (vld_bst (vld_top ha))
theorem bsD_dep (ha : ¬ cyc B N) {T : Nat → Nat} (h : bst ne fi la B N (bsD ne fi la B N) = some T) : mxN T N = bsD ne fi la B N := by
  have hv := bst_vld h
  have h1 : mxN T N ≤ bsD ne fi la B N := mxN_le (fun s hs => (hv s hs).1.2)
  rcases Nat.lt_or_ge (mxN T N) (bsD ne fi la B N) with h2 | h2
  · have hv2 : vld (fitB ne fi la B) (mxN T N) N T := fun s hs => ⟨⟨(hv s hs).1.1, mxN_ge hs⟩, (hv s hs).2⟩
    exact absurd (bsD_no h2) (vld_bst hv2)
  · omega
theorem bsD_ge (hself : ∀ s, s < N → (B s).testBit s = false) (ha : ¬ cyc B N) : rnd (prd B N) N ≤ bsD ne fi la B N ∧ mxN (fun c => pc (xs ne fi la N c) 16) n ≤ bsD ne fi la B N := by
  obtain ⟨T, hT⟩ := bsD_yes (ne := ne) (fi := fi) (la := la) ha
  have hv := bst_vld hT
  exact ⟨vld_rnd hself hv, vld_dens hv⟩
theorem bst_gat (hself : ∀ s, s < N → (B s).testBit s = false) {D : Nat} : bst ne fi la B N D = sr (gat B N D) (fitB ne fi la B) D N 0 (fun _ => 0) := sr_eq fitB_loc (fun W hW s hs => gat_ok hself hW hs) (by omega) (fun s hs => absurd hs (Nat.not_lt_zero s))
end
