/-! ===== distances and the shortest cycle ===== -/
section
variable {B : Nat → Nat} {N : Nat}
def bAny (B : Nat → Nat) (x : Nat) : Nat → Nat := fo (fun u a => if x.testBit u then a ||| B u else a) 0
theorem bAny_bit {x t : Nat} : ∀ {N : Nat}, (bAny B x N).testBit t = true ↔ ∃ u, u < N ∧ x.testBit u = true ∧ (B u).testBit t = true
  | 0 => by simp [bAny, fo]
  | N + 1 => by
    have ih := bAny_bit (x := x) (t := t) (N := N)
    have e : bAny B x (N + 1) = if x.testBit N then bAny B x N ||| B N else bAny B x N := rfl
    rw [e]
    by_cases q : x.testBit N = true
    · rw [if_pos q, Nat.testBit_or, Bool.or_eq_true, ih]
      constructor
      · rintro (⟨u, h1, h2, h3⟩ | h)
        · exact ⟨u, by omega, h2, h3⟩
        · exact ⟨N, by omega, q, h⟩
      · rintro ⟨u, h1, h2, h3⟩
        rcases Nat.lt_or_ge u N with h | h
        · exact Or.inl ⟨u, h, h2, h3⟩
        · have : u = N := by omega
          subst this; exact Or.inr h3
    · rw [if_neg q, ih]
      constructor
      · rintro ⟨u, h1, h2, h3⟩; exact ⟨u, by omega, h2, h3⟩
      · rintro ⟨u, h1, h2, h3⟩
        rcases Nat.lt_or_ge u N with h | h
        · exact ⟨u, h, h2, h3⟩
        · have : u = N := by omega
          subst this; exact absurd h2 q
def rs (B : Nat → Nat) (N s : Nat) : Nat → Nat := fo (fun _ x => x ||| bAny B x N) (B s)
theorem rs_bit (hB : ∀ s, s < N → ∀ t, (B s).testBit t = true → t < N) {s t : Nat} (hs : s < N) : ∀ {k : Nat}, (rs B N s k).testBit t = true ↔ ∃ r, 1 ≤ r ∧ r ≤ k + 1 ∧ wk B N r s t
  | 0 => by
    show (B s).testBit t = true ↔ _
    constructor
    · intro h; exact ⟨1, Nat.le_refl 1, Nat.le_refl 1, wk_1 ⟨h, hs, hB s hs t h⟩⟩
    · rintro ⟨r, h1, h2, h3⟩
      have : r = 1 := by omega
      subst this
      obtain ⟨u, h4, h5, _⟩ := h3
      subst h5; exact h4.1
  | k + 1 => by
    have e : rs B N s (k + 1) = rs B N s k ||| bAny B (rs B N s k) N := rfl
    rw [e, Nat.testBit_or, Bool.or_eq_true, rs_bit hB hs, bAny_bit]
    constructor
    · rintro (⟨r, h1, h2, h3⟩ | ⟨u, h1, h2, h3⟩)
      · exact ⟨r, h1, by omega, h3⟩
      · obtain ⟨r, a1, a2, a3⟩ := (rs_bit hB hs).mp h2
        exact ⟨r + 1, by omega, by omega, wk_app a3 (wk_1 ⟨h3, h1, hB u h1 t h3⟩)⟩
    · rintro ⟨r, h1, h2, h3⟩
      rcases Nat.lt_or_ge r (k + 2) with h | h
      · exact Or.inl ⟨r, h1, by omega, h3⟩
      · have hr : r = (k + 1) + 1 := by omega
        subst hr
        obtain ⟨u, a1, a2⟩ := wk_cut (a := k + 1) (b := 1) h3
        obtain ⟨v, b1, b2, _⟩ := a2
        subst b2
        exact Or.inr ⟨u, b1.2.1, (rs_bit hB hs).mpr ⟨k + 1, by omega, by omega, a1⟩, b1.1⟩
/-- the steps of the shortest way, at least one; 0: there is none -/
def sd (B : Nat → Nat) (N s t : Nat) : Nat := if fst (fun k => (rs B N s k).testBit t) N < N then fst (fun k => (rs B N s k).testBit t) N + 1 else 0
theorem sd_le {s t : Nat} : sd B N s t ≤ N := by
  rw [sd]; split <;> omega
theorem sd_pos (hB : ∀ s, s < N → ∀ t, (B s).testBit t = true → t < N) {s t : Nat} (hs : s < N) (h : sd B N s t ≠ 0) : wk B N (sd B N s t) s t ∧ ∀ r, 1 ≤ r → r < sd B N s t → ¬ wk B N r s t := by
  rw [sd] at h ⊢
  by_cases q : fst (fun k => (rs B N s k).testBit t) N < N
  · rw [if_pos q]
    have hy : (rs B N s (fst (fun k => (rs B N s k).testBit t) N)).testBit t = true := fst_yes (fun k => (rs B N s k).testBit t) N q
    have hno : ∀ k, k < fst (fun k => (rs B N s k).testBit t) N → (rs B N s k).testBit t = false := fun k hk => fst_no (fun k => (rs B N s k).testBit t) N k hk
    generalize fst (fun k => (rs B N s k).testBit t) N = e at *
    have hnot : ∀ r, 1 ≤ r → r < e + 1 → ¬ wk B N r s t := by
      intro r h1 h2 h3
      have := hno (r - 1) (by omega)
      have h4 := (rs_bit hB hs (k := r - 1)).mpr ⟨r, h1, by omega, h3⟩
      rw [this] at h4
      exact absurd h4 (by decide)
    obtain ⟨r, h1, h2, h3⟩ := (rs_bit hB hs).mp hy
    have : r = e + 1 := by
      rcases Nat.lt_or_ge r (e + 1) with h4 | h4
      · exact absurd h3 (hnot r h1 h4)
      · omega
    subst this
    exact ⟨h3, hnot⟩
  · rw [if_neg q] at h; exact absurd rfl h
theorem sd_zero (hB : ∀ s, s < N → ∀ t, (B s).testBit t = true → t < N) {s t : Nat} (hs : s < N) (h : sd B N s t = 0) : ∀ r, 1 ≤ r → ¬ wk B N r s t := by
  intro r h1 h2
  obtain ⟨q, q1, q2, q3⟩ := wk_short ⟨r, h1, h2⟩
  rw [sd] at h
  by_cases c : fst (fun k => (rs B N s k).testBit t) N < N
  · rw [if_pos c] at h; omega
  · have := fst_no (fun k => (rs B N s k).testBit t) N (q - 1) (by have := fst_le (fun k => (rs B N s k).testBit t) N; omega)
    have h4 := (rs_bit hB hs (k := q - 1)).mpr ⟨q, q1, by omega, q3⟩
    have this : (rs B N s (q - 1)).testBit t = false := this
    rw [this] at h4
    exact absurd h4 (by decide)
theorem sd_of (hB : ∀ s, s < N → ∀ t, (B s).testBit t = true → t < N) {s t d : Nat} (hs : s < N) (h1 : 1 ≤ d) (h2 : wk B N d s t) (h3 : ∀ r, 1 ≤ r → r < d → ¬ wk B N r s t) : sd B N s t = d := by
  by_cases q : sd B N s t = 0
  · exact absurd h2 (sd_zero hB hs q d h1)
  · obtain ⟨a, b⟩ := sd_pos hB hs q
    rcases Nat.lt_trichotomy (sd B N s t) d with h | h | h
    · exact absurd a (h3 _ (by omega) h)
    · exact h
    · exact absurd h2 (b d h1 h)
/-- a: the least place on a shortest cycle, which has l steps -/
def rng (B : Nat → Nat) (N a l : Nat) : Prop := a < N ∧ 1 ≤ l ∧ sd B N a a = l ∧ (∀ s, s < N → sd B N s s ≠ 0 → l ≤ sd B N s s) ∧ ∀ s, s < a → sd B N s s ≠ 0 → l < sd B N s s
theorem rng_no (hB : ∀ s, s < N → ∀ t, (B s).testBit t = true → t < N) {a l : Nat} (h : rng B N a l) {s r : Nat} (h1 : 1 ≤ r) (h2 : r < l) : ¬ wk B N r s s := by
  intro hw
  have hs := (wk_lt hw).1
  by_cases q : sd B N s s = 0
  · exact sd_zero hB hs q r h1 hw
  · obtain ⟨_, b⟩ := sd_pos hB hs q
    have := h.2.2.2.1 s hs q
    exact b r h1 (by omega) hw
theorem rng_ge (hB : ∀ s, s < N → ∀ t, (B s).testBit t = true → t < N) {a l : Nat} (h : rng B N a l) {s : Nat} (hw : wk B N l s s) : a ≤ s := by
  have hs := (wk_lt hw).1
  have e : sd B N s s = l := sd_of hB hs h.2.1 hw (fun r h1 h2 => rng_no hB h h1 h2)
  rcases Nat.lt_or_ge s a with h1 | h1
  · have := h.2.2.2.2 s h1 (by have := h.2.1; omega)
    omega
  · exact h1
theorem rng_wk (hB : ∀ s, s < N → ∀ t, (B s).testBit t = true → t < N) {a l : Nat} (h : rng B N a l) : wk B N l a a := by
  have h1 := h.2.1
  have h2 := h.2.2.1
  have := (sd_pos hB h.1 (t := a) (by omega)).1
  rwa [h2] at this
theorem rng_ex (hB : ∀ s, s < N → ∀ t, (B s).testBit t = true → t < N) (h : cyc B N) : ∃ a l, rng B N a l := by
  obtain ⟨s, r, h1, h2⟩ := h
  -- the least length
  have hex : ∃ l, ∃ s, s < N ∧ sd B N s s = l ∧ l ≠ 0 := by
    refine ⟨sd B N s s, s, (wk_lt h2).1, rfl, fun e => sd_zero hB (wk_lt h2).1 e r h1 h2⟩
  obtain ⟨l, ⟨s0, q1, q2, q3⟩, q4⟩ := pk_least (fun l => ∃ s, s < N ∧ sd B N s s = l ∧ l ≠ 0) hex
  obtain ⟨a, ⟨a1, a2⟩, a3⟩ := pk_least (fun a => a < N ∧ sd B N a a = l) ⟨s0, q1, q2⟩
  refine ⟨a, l, a1, by omega, a2, fun s hs hne => ?_, fun s hs hne => ?_⟩
  · rcases Nat.lt_or_ge (sd B N s s) l with h | h
    · exact absurd ⟨s, hs, rfl, hne⟩ (q4 _ h)
    · exact h
  · rcases Nat.lt_or_ge l (sd B N s s) with h | h
    · exact h
    · have hle : l ≤ sd B N s s := by
        rcases Nat.lt_or_ge (sd B N s s) l with h' | h'
        · exact absurd ⟨s, by omega, rfl, hne⟩ (q4 _ h')
        · exact h'
      exact absurd ⟨by omega, by omega⟩ (a3 s hs)
/-- the way on: t is next behind the place j of the ring -/
theorem nxt_iff (hB : ∀ s, s < N → ∀ t, (B s).testBit t = true → t < N) {a l : Nat} (h : rng B N a l) {j u t : Nat} (hj : j + 1 < l) (hu : wk B N j a u) (he : eg B N u t) : sd B N t a = l - (j + 1) ↔ wk B N (l - (j + 1)) t a := by
  have ht := he.2.2
  constructor
  · intro h1
    have := (sd_pos hB ht (t := a) (by omega)).1
    rwa [h1] at this
  · intro h1
    refine sd_of hB ht (by omega) h1 (fun r r1 r2 hw => ?_)
    have := wk_app (wk_app hu (wk_1 he)) hw
    exact rng_no hB h (by omega) (by omega) this
end
