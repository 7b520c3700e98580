theorem fb_holes : ∀ (m n : Nat) (f : Nat → Nat), (∀ i, i < n → f i < m) → (∀ i j, i < j → j < n → f i ≠ f j) → n ≤ m := by
  intro m
  induction m with
  | zero =>
    intro n f h1 _
    rcases Nat.eq_zero_or_pos n with h | h
    · omega
    · exact absurd (h1 0 h) (Nat.not_lt_zero _)
  | succ m ih =>
    intro n f h1 h2
    by_cases hx : ∃ i, i < n ∧ f i = m
    · obtain ⟨a, ha, hfa⟩ := hx
      have hg := ih (n - 1) (fun i => if i < a then f i else f (i + 1)) (by
        intro i hi
        by_cases q : i < a
        · simp only [if_pos q]
          have b1 := h1 i (by omega)
          have b2 := h2 i a q ha
          omega
        · simp only [if_neg q]
          have b1 := h1 (i + 1) (by omega)
          have b2 := h2 a (i + 1) (by omega) (by omega)
          omega) (by
        intro i j hij hj
        by_cases q : i < a
        · by_cases r : j < a
          · simp only [if_pos q, if_pos r]
            exact h2 i j hij (by omega)
          · simp only [if_pos q, if_neg r]
            exact h2 i (j + 1) (by omega) (by omega)
        · have r : ¬ j < a := by omega
          simp only [if_neg q, if_neg r]
          exact h2 (i + 1) (j + 1) (by omega) (by omega))
      omega
    · have hg := ih n f (fun i hi => by
        have b1 := h1 i hi
        have b2 : f i ≠ m := fun e => hx ⟨i, hi, e⟩
        omega) h2
      omega
/-- two of them in one place -/
theorem fb_twice {m n : Nat} {f : Nat → Nat} (h : ∀ i, i < n → f i < m) (hm : m < n) : ∃ i j, i < j ∧ j < n ∧ f i = f j := by
  refine Classical.byContradiction fun hx => ?_
  have := fb_holes m n f h (fun i j hij hj e => hx ⟨i, j, hij, hj, e⟩)
  omega
/-! ===== walks in a graph of N places, given by masks ===== -/
def eg (B : Nat → Nat) (N s t : Nat) : Prop := (B s).testBit t = true ∧ s < N ∧ t < N
/-- a walk of r steps -/
def wk (B : Nat → Nat) (N : Nat) : Nat → Nat → Nat → Prop
  | 0, s, t => s = t ∧ s < N
  | r + 1, s, t => ∃ u, eg B N s u ∧ wk B N r u t
section
variable {B F V : Nat → Nat} {N : Nat}
theorem wk_lt : ∀ {r s t : Nat}, wk B N r s t → s < N ∧ t < N
  | 0, s, t, h => ⟨h.2, h.1 ▸ h.2⟩
  | r + 1, s, t, h => by
    obtain ⟨u, h1, h2⟩ := h
    exact ⟨h1.2.1, (wk_lt h2).2⟩
theorem wk_1 {s t : Nat} (h : eg B N s t) : wk B N 1 s t := ⟨t, h, rfl, h.2.2⟩
theorem wk_app : ∀ {a b s u t : Nat}, wk B N a s u → wk B N b u t → wk B N (a + b) s t
  | 0, b, s, u, t, h1, h2 => by
    obtain ⟨rfl, _⟩ := h1
    rw [Nat.zero_add]; exact h2
  | a + 1, b, s, u, t, h1, h2 => by
    obtain ⟨v, h3, h4⟩ := h1
    rw [show a + 1 + b = (a + b) + 1 by omega]
    exact ⟨v, h3, wk_app h4 h2⟩
theorem wk_cut : ∀ {a b s t : Nat}, wk B N (a + b) s t → ∃ u, wk B N a s u ∧ wk B N b u t
  | 0, b, s, t, h => by
    rw [Nat.zero_add] at h
    exact ⟨s, ⟨rfl, (wk_lt h).1⟩, h⟩
  | a + 1, b, s, t, h => by
    rw [show a + 1 + b = (a + b) + 1 by omega] at h
    obtain ⟨v, h3, h4⟩ := h
    obtain ⟨u, h5, h6⟩ := wk_cut h4
    exact ⟨u, ⟨v, h3, h5⟩, h6⟩
/-- a walk as a row of places -/
theorem wk_fun : ∀ {r s t : Nat}, wk B N r s t → ∃ f : Nat → Nat, f 0 = s ∧ f r = t ∧ (∀ i, i < r → eg B N (f i) (f (i + 1))) ∧ ∀ i, i ≤ r → f i < N
  | 0, s, t, h => ⟨fun _ => s, rfl, h.1, fun i hi => absurd hi (Nat.not_lt_zero i), fun _ _ => h.2⟩
  | r + 1, s, t, h => by
    obtain ⟨u, h1, h2⟩ := h
    obtain ⟨f, f0, fr, fe, fl⟩ := wk_fun h2
    refine ⟨fun i => match i with | 0 => s | j + 1 => f j, rfl, fr, fun i hi => ?_, fun i hi => ?_⟩
    · match i with
      | 0 => show eg B N s (f 0); rw [f0]; exact h1
      | j + 1 => exact fe j (by omega)
    · match i with
      | 0 => exact h1.2.1
      | j + 1 => exact fl j (by omega)
theorem fun_wk {f : Nat → Nat} : ∀ (d i : Nat), (∀ j, i ≤ j → j < i + d → eg B N (f j) (f (j + 1))) → f i < N → wk B N d (f i) (f (i + d))
  | 0, i, _, h => ⟨rfl, h⟩
  | d + 1, i, he, h => by
    have h1 := he i (Nat.le_refl _) (by omega)
    refine ⟨f (i + 1), h1, ?_⟩
    rw [show i + (d + 1) = (i + 1) + d by omega]
    exact fun_wk d (i + 1) (fun j a b => he j (by omega) (by omega)) h1.2.2
/-- a cycle: a walk back -/
def cyc (B : Nat → Nat) (N : Nat) : Prop := ∃ s r, 1 ≤ r ∧ wk B N r s s
theorem cyc_of_long {r s t : Nat} (h : wk B N r s t) (hr : N ≤ r) : cyc B N := by
  obtain ⟨f, f0, fr, fe, fl⟩ := wk_fun h
  obtain ⟨i, j, hij, hj, e⟩ := fb_twice (m := N) (n := r + 1) (f := f) (fun i hi => fl i (by omega)) (by omega)
  have := fun_wk (B := B) (N := N) (f := f) (j - i) i (fun k a b => fe k (by omega)) (fl i (by omega))
  rw [show i + (j - i) = j by omega, ← e] at this
  exact ⟨f i, j - i, by omega, this⟩
theorem long_of_cyc {s r : Nat} (h1 : 1 ≤ r) (h : wk B N r s s) : ∀ m, ∃ t, wk B N m s t
  | 0 => ⟨s, rfl, (wk_lt h).1⟩
  | m + 1 => by
    obtain ⟨t, ht⟩ := long_of_cyc h1 h m
    have h2 := wk_app h ht
    rw [show r + m = (m + 1) + (r - 1) by omega] at h2
    obtain ⟨u, h3, _⟩ := wk_cut h2
    exact ⟨u, h3⟩
/-- the shortest way has no place twice: it has at most N steps -/
theorem wk_short {s t : Nat} (h : ∃ r, 1 ≤ r ∧ wk B N r s t) : ∃ r, 1 ≤ r ∧ r ≤ N ∧ wk B N r s t := by
  obtain ⟨r0, hr0, h0⟩ := h
  have key : ∀ n r, r ≤ n → 1 ≤ r → wk B N r s t → ∃ r, 1 ≤ r ∧ r ≤ N ∧ wk B N r s t := by
    intro n
    induction n with
    | zero => intro r h1 h2; omega
    | succ n ih =>
      intro r h1 h2 h3
      rcases Nat.lt_or_ge N r with h4 | h4
      · obtain ⟨f, f0, fr, fe, fl⟩ := wk_fun h3
        obtain ⟨i, j, hij, hj, e⟩ := fb_twice (m := N) (n := r) (f := fun i => f (i + 1)) (fun i hi => fl (i + 1) (by omega)) (by omega)
        have a := fun_wk (B := B) (N := N) (f := f) (i + 1) 0 (fun k a b => fe k (by omega)) (fl 0 (by omega))
        have b := fun_wk (B := B) (N := N) (f := f) (r - (j + 1)) (j + 1) (fun k a b => fe k (by omega)) (fl (j + 1) (by omega))
        rw [Nat.zero_add, f0] at a
        rw [show j + 1 + (r - (j + 1)) = r by omega, fr] at b
        have e' : f (i + 1) = f (j + 1) := e
        rw [← e'] at b
        exact ih (i + 1 + (r - (j + 1))) (by omega) (by omega) (wk_app a b)
      · exact ⟨r, h2, h4, h3⟩
  exact key r0 r0 (Nat.le_refl _) hr0 h0
/-! the closure -/
theorem fwS_bit {b s t : Nat} : (fwS F b s).testBit t = true ↔ (F s).testBit t = true ∨ ((F s).testBit b = true ∧ (F b).testBit t = true) := by
  rw [fwS]
  by_cases h : (F s).testBit b = true
  · rw [if_pos h, Nat.testBit_or, Bool.or_eq_true]
    constructor
    · rintro (h1 | h1)
      · exact Or.inl h1
      · exact Or.inr ⟨h, h1⟩
    · rintro (h1 | h1)
      · exact Or.inl h1
      · exact Or.inr h1.2
  · rw [if_neg h]
    constructor
    · exact Or.inl
    · rintro (h1 | h1)
      · exact h1
      · exact absurd h1.1 h
theorem far_inv (hB : ∀ s, s < N → ∀ t, (B s).testBit t = true → t < N) : ∀ b, b ≤ N →
    (∀ s t, s < N → (B s).testBit t = true → (far B b s).testBit t = true) ∧
    (∀ s t, s < N → (far B b s).testBit t = true → t < N ∧ ∃ r, 1 ≤ r ∧ wk B N r s t) ∧
    (∀ c s t, c < b → s < N → (far B b s).testBit c = true → (far B b c).testBit t = true → (far B b s).testBit t = true)
  | 0, _ => by
    refine ⟨fun s t _ h => h, fun s t hs h => ?_, fun c s t hc => absurd hc (Nat.not_lt_zero c)⟩
    have ht := hB s hs t h
    exact ⟨ht, 1, Nat.le_refl 1, wk_1 ⟨h, hs, ht⟩⟩
  | b + 1, hb => by
    obtain ⟨i1, i2, i3⟩ := far_inv hB b (by omega)
    have e : far B (b + 1) = fwS (far B b) b := rfl
    rw [e]
    refine ⟨fun s t hs h => fwS_bit.mpr (Or.inl (i1 s t hs h)), fun s t hs h => ?_, fun c s t hc hs h1 h2 => ?_⟩
    · rcases fwS_bit.mp h with h | ⟨h3, h4⟩
      · exact i2 s t hs h
      · obtain ⟨_, r1, q1, w1⟩ := i2 s b hs h3
        obtain ⟨ht, r2, q2, w2⟩ := i2 b t (by omega) h4
        exact ⟨ht, r1 + r2, by omega, wk_app w1 w2⟩
    · rw [fwS_bit] at h1 h2 ⊢
      rcases Nat.lt_or_ge c b with hcb | hcb
      · rcases h1 with h1 | ⟨h1, h1'⟩
        · rcases h2 with h2 | ⟨h2, h2'⟩
          · exact Or.inl (i3 c s t hcb hs h1 h2)
          · exact Or.inr ⟨i3 c s b hcb hs h1 h2, h2'⟩
        · rcases h2 with h2 | ⟨h2, h2'⟩
          · exact Or.inr ⟨h1, i3 c b t hcb (by omega) h1' h2⟩
          · exact Or.inr ⟨h1, h2'⟩
      · have : c = b := by omega
        subst this
        have h3 : (far B c s).testBit c = true := by
          rcases h1 with h1 | ⟨h1, _⟩ <;> exact h1
        have h4 : (far B c c).testBit t = true := by
          rcases h2 with h2 | ⟨_, h2⟩ <;> exact h2
        exact Or.inr ⟨h3, h4⟩
theorem far_iff (hB : ∀ s, s < N → ∀ t, (B s).testBit t = true → t < N) {s t : Nat} (hs : s < N) : (far B N s).testBit t = true ↔ ∃ r, 1 ≤ r ∧ wk B N r s t := by
  obtain ⟨i1, i2, i3⟩ := far_inv hB N (Nat.le_refl N)
  refine ⟨fun h => (i2 s t hs h).2, ?_⟩
  rintro ⟨r, hr, h⟩
  have key : ∀ r s, s < N → wk B N (r + 1) s t → (far B N s).testBit t = true := by
    intro r
    induction r with
    | zero =>
      rintro s hs ⟨u, h1, h2, _⟩
      subst h2
      exact i1 s u hs h1.1
    | succ r ih =>
      rintro s hs ⟨u, h1, h2⟩
      exact i3 u s t h1.2.2 hs (i1 s u hs h1.1) (ih u h1.2.2 h2)
  obtain ⟨k, rfl⟩ : ∃ k, r = k + 1 := ⟨r - 1, by omega⟩
  exact key k s hs h
theorem ring_iff (hB : ∀ s, s < N → ∀ t, (B s).testBit t = true → t < N) : exB (fun s => (far B N s).testBit s) N = true ↔ cyc B N := by
  rw [exB_iff]
  constructor
  · rintro ⟨s, hs, h⟩
    obtain ⟨r, h1, h2⟩ := (far_iff hB hs).mp h
    exact ⟨s, r, h1, h2⟩
  · rintro ⟨s, r, h1, h2⟩
    exact ⟨s, (wk_lt h2).1, (far_iff hB (wk_lt h2).1).mpr ⟨r, h1, h2⟩⟩
/-! turned round -/
theorem wk_rev (hV : ∀ s t, eg B N s t ↔ eg V N t s) : ∀ {r s t : Nat}, wk B N r s t → wk V N r t s
  | 0, s, t, h => ⟨h.1.symm, h.1 ▸ h.2⟩
  | r + 1, s, t, h => by
    obtain ⟨u, h1, h2⟩ := h
    exact wk_app (wk_rev hV h2) (wk_1 ((hV s u).mp h1))
theorem cyc_rev (hV : ∀ s t, eg B N s t ↔ eg V N t s) : cyc B N ↔ cyc V N := by
  constructor
  · rintro ⟨s, r, h1, h2⟩; exact ⟨s, r, h1, wk_rev hV h2⟩
  · rintro ⟨s, r, h1, h2⟩; exact ⟨s, r, h1, wk_rev (fun s t => (hV t s).symm) h2⟩
/-! walks from a place, by their number of steps -/
def pwB (V : Nat → Nat) (N : Nat) : Nat → Nat → Bool
  | 0, s => decide (s < N)
  | r + 1, s => decide (s < N) && exB (fun p => (V s).testBit p && pwB V N r p) N
theorem pwB_iff : ∀ {r s : Nat}, pwB V N r s = true ↔ ∃ t, wk V N r s t
  | 0, s => by
    simp only [pwB, decide_eq_true_eq]
    exact ⟨fun h => ⟨s, rfl, h⟩, fun ⟨t, h⟩ => h.2⟩
  | r + 1, s => by
    simp only [pwB, Bool.and_eq_true, decide_eq_true_eq, exB_iff]
    constructor
    · rintro ⟨h0, p, h1, h2, h3⟩
      obtain ⟨t, ht⟩ := pwB_iff.mp h3
      exact ⟨t, p, ⟨h2, h0, h1⟩, ht⟩
    · rintro ⟨t, p, h1, h2⟩
      exact ⟨h1.2.1, p, h1.2.2, h1.1, pwB_iff.mpr ⟨t, h2⟩⟩
theorem pwB_down {r s : Nat} (h : pwB V N (r + 1) s = true) : pwB V N r s = true := by
  obtain ⟨t, ht⟩ := pwB_iff.mp h
  obtain ⟨u, h1, _⟩ := wk_cut (a := r) (b := 1) ht
  exact pwB_iff.mpr ⟨u, h1⟩
theorem pwB_mono {a b s : Nat} (hab : a ≤ b) (h : pwB V N b s = true) : pwB V N a s = true := by
  obtain ⟨d, rfl⟩ := Nat.exists_eq_add_of_le hab
  clear hab
  induction d with
  | zero => exact h
  | succ d ih => exact ih (pwB_down h)
theorem acyc_iff : cyc V N ↔ exB (fun s => pwB V N N s) N = true := by
  rw [exB_iff]
  constructor
  · rintro ⟨s, r, h1, h2⟩
    exact ⟨s, (wk_lt h2).1, pwB_iff.mpr (long_of_cyc h1 h2 N)⟩
  · rintro ⟨s, hs, h⟩
    obtain ⟨t, ht⟩ := pwB_iff.mp h
    exact cyc_of_long ht (Nat.le_refl N)
/-- the number of steps of the longest walk -/
def lvl (V : Nat → Nat) (N s : Nat) : Nat := cnt (fun r => pwB V N (r + 1) s) N
theorem cnt_top {p : Nat → Bool} (hd : ∀ r, p (r + 1) = true → p r = true) : ∀ {n k : Nat}, k ≤ n → (k ≤ cnt p n ↔ ∀ r, r < k → p r = true)
  | 0, k, hk => by
    have : k = 0 := by omega
    subst this
    exact ⟨fun _ r hr => absurd hr (Nat.not_lt_zero r), fun _ => Nat.zero_le _⟩
  | n + 1, k, hk => by
    have e : cnt p (n + 1) = cnt p n + (if p n then 1 else 0) := rfl
    have hl := cnt_le p n
    have down : ∀ d r, p (r + d) = true → p r = true := by
      intro d
      induction d with
      | zero => intro r h; exact h
      | succ d ih => intro r h; exact ih r (hd _ h)
    rcases Nat.lt_or_ge k (n + 1) with h | h
    · have ih := cnt_top hd (n := n) (k := k) (by omega)
      rw [e]
      constructor
      · intro h1
        by_cases hp : p n = true
        · intro r hr
          exact down (n - r) r (by rw [show r + (n - r) = n by omega]; exact hp)
        · rw [if_neg hp] at h1
          exact ih.mp (by omega)
      · intro h1
        have := ih.mpr h1
        omega
    · have : k = n + 1 := by omega
      subst this
      rw [e]
      constructor
      · intro h1
        have hp : p n = true := by
          by_cases hp : p n = true
          · exact hp
          · rw [if_neg hp] at h1; omega
        intro r hr
        exact down (n - r) r (by rw [show r + (n - r) = n by omega]; exact hp)
      · intro h1
        have hp := h1 n (by omega)
        have := (cnt_top hd (n := n) (k := n) (Nat.le_refl n)).mpr (fun r hr => h1 r (by omega))
        rw [if_pos hp]; omega
theorem lvl_iff {s k : Nat} (hk : k ≤ N) (hs : s < N) : k ≤ lvl V N s ↔ pwB V N k s = true := by
  rw [lvl, cnt_top (fun r h => pwB_down h) hk]
  constructor
  · intro h
    cases k with
    | zero => simpa [pwB] using hs
    | succ k => exact h k (Nat.lt_succ_self k)
  · intro h r hr
    exact pwB_mono (by omega) h
theorem lvl_lt (ha : ¬ cyc V N) {s : Nat} (hs : s < N) : lvl V N s < N := by
  have h1 : lvl V N s ≤ N := cnt_le _ N
  rcases Nat.lt_or_ge (lvl V N s) N with h | h
  · exact h
  · have h2 := (lvl_iff (V := V) (Nat.le_refl N) hs).mp h
    exact absurd (acyc_iff.mpr (exB_iff.mpr ⟨s, hs, h2⟩)) ha
theorem lvl_edge (ha : ¬ cyc V N) {s p : Nat} (h : eg V N s p) : lvl V N p < lvl V N s := by
  have h1 := lvl_lt ha h.2.2
  have h2 := (lvl_iff (V := V) (k := lvl V N p) (by omega) h.2.2).mp (Nat.le_refl _)
  have h3 : pwB V N (lvl V N p + 1) s = true := by
    obtain ⟨t, ht⟩ := pwB_iff.mp h2
    exact pwB_iff.mpr ⟨t, p, h, ht⟩
  exact (lvl_iff (V := V) (by omega) h.2.1).mpr h3
end
