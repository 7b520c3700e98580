/-! ===== segments: the list that the document names ===== -/
/-- the last, and the first, column below k with a pin of w, plus one; 0: none -/
def lpn (P : Nat → Nat) (w : Nat) : Nat → Nat := fo (fun k a => if hp P w k then k + 1 else a) 0
def fpn (P : Nat → Nat) (w : Nat) : Nat → Nat := fo (fun k a => if a = 0 then (if hp P w k then k + 1 else 0) else a) 0
def pcs (P : Nat → Nat) (w : Nat) : Nat → List (Nat × Nat × Nat) := fo (fun k L => if hp P w k = true ∧ lpn P w k ≠ 0 then L ++ [(w, lpn P w k - 1, k)] else L) []
def whl (P : Nat → Nat) (w n : Nat) : List (Nat × Nat × Nat) := if fpn P w n < lpn P w n then [(w, fpn P w n - 1, lpn P w n - 1)] else []
def sgW (P : Nat → Nat) (n C w : Nat) : List (Nat × Nat × Nat) := if C.testBit w then pcs P w n else whl P w n
def sgs (P : Nat → Nat) (n C : Nat) : Nat → List (Nat × Nat × Nat) := fo (fun w L => L ++ sgW P n C w) []
theorem lpn_le (P : Nat → Nat) (w : Nat) : ∀ k, lpn P w k ≤ k
  | 0 => Nat.le_refl _
  | k + 1 => by
    have := lpn_le P w k
    show (if hp P w k then k + 1 else lpn P w k) ≤ k + 1
    split <;> omega
theorem fpn_le (P : Nat → Nat) (w : Nat) : ∀ k, fpn P w k ≤ lpn P w k ∧ (fpn P w k = 0 ↔ lpn P w k = 0)
  | 0 => ⟨Nat.le_refl _, Iff.rfl⟩
  | k + 1 => by
    have ih := fpn_le P w k
    have hl := lpn_le P w k
    show (if fpn P w k = 0 then (if hp P w k then k + 1 else 0) else fpn P w k) ≤ (if hp P w k then k + 1 else lpn P w k) ∧ ((if fpn P w k = 0 then (if hp P w k then k + 1 else 0) else fpn P w k) = 0 ↔ (if hp P w k then k + 1 else lpn P w k) = 0)
    by_cases q1 : fpn P w k = 0
    · by_cases q2 : hp P w k = true
      · rw [if_pos q1, if_pos q2, if_pos q2]; exact ⟨Nat.le_refl _, Iff.rfl⟩
      · rw [if_pos q1, if_neg q2, if_neg q2]; exact ⟨Nat.zero_le _, ⟨fun _ => ih.2.mp q1, fun _ => rfl⟩⟩
    · by_cases q2 : hp P w k = true
      · rw [if_neg q1, if_pos q2]; exact ⟨by omega, ⟨fun h => absurd h q1, fun h => absurd h (by omega)⟩⟩
      · rw [if_neg q1, if_neg q2]; exact ih
theorem cnt_lpn (P : Nat → Nat) (w : Nat) : ∀ k, (lpn P w k = 0 ↔ cnt (hp P w) k = 0)
  | 0 => Iff.rfl
  | k + 1 => by
    have ih := cnt_lpn P w k
    show ((if hp P w k then k + 1 else lpn P w k) = 0 ↔ cnt (hp P w) k + (if hp P w k then 1 else 0) = 0)
    by_cases q2 : hp P w k = true <;> simp only [q2, if_true, if_false, Bool.false_eq_true, eq_self] <;> exact ⟨fun _ => by omega, fun _ => by omega⟩
theorem cnt_fpn (P : Nat → Nat) (w : Nat) : ∀ k, fpn P w k < lpn P w k → 2 ≤ cnt (hp P w) k
  | 0, h => absurd h (Nat.lt_irrefl 0)
  | k + 1, h => by
    have ih := cnt_fpn P w k
    have h1 := fpn_le P w k
    have h2 := cnt_lpn P w k
    have h' : (if fpn P w k = 0 then (if hp P w k then k + 1 else 0) else fpn P w k) < (if hp P w k then k + 1 else lpn P w k) := h
    show 2 ≤ cnt (hp P w) k + (if hp P w k then 1 else 0)
    by_cases q1 : fpn P w k = 0 <;> by_cases q2 : hp P w k = true <;> simp only [q1, q2, if_true, if_false, Bool.false_eq_true, eq_self] at h' ⊢ <;> omega
theorem pcs_len (P : Nat → Nat) (w : Nat) : ∀ k, (pcs P w k).length = cnt (hp P w) k - 1
  | 0 => rfl
  | k + 1 => by
    have ih := pcs_len P w k
    have h2 := cnt_lpn P w k
    show (if hp P w k = true ∧ lpn P w k ≠ 0 then pcs P w k ++ [(w, lpn P w k - 1, k)] else pcs P w k).length = cnt (hp P w) k + (if hp P w k then 1 else 0) - 1
    by_cases q2 : hp P w k = true
    · by_cases q1 : lpn P w k = 0
      · simp only [q1, q2, ne_eq, not_true, and_false, if_false, if_true, ih]; omega
      · simp only [q1, q2, ne_eq, not_false_eq_true, and_self, if_true, List.length_append, List.length_cons, List.length_nil, ih]; omega
    · simp only [q2, false_and, if_false, Bool.false_eq_true, ih]; omega
theorem sgW_len (P : Nat → Nat) (n C w : Nat) : (sgW P n C w).length ≤ cnt (hp P w) n - 1 := by
  rw [sgW]
  split
  · rw [pcs_len]; exact Nat.le_refl _
  · rw [whl]
    split
    · rename_i h
      have := cnt_fpn P w n h
      simp only [List.length_cons, List.length_nil]; omega
    · exact Nat.zero_le _
theorem one6 : ∀ x, x ≤ 6 → (if x = 1 then 1 else 0) + (if x = 2 then 1 else 0) + (if x = 3 then 1 else 0) + (if x = 4 then 1 else 0) + (if x = 5 then 1 else 0) + (if x = 6 then 1 else 0) ≤ 1 := by decide
theorem two6 {P : Nat → Nat} : ∀ {n : Nat}, (∀ k, k < 2 * n → P k ≤ 6) → cnt (hp P 0) n + cnt (hp P 1) n + cnt (hp P 2) n + cnt (hp P 3) n + cnt (hp P 4) n + cnt (hp P 5) n ≤ 2 * n
  | 0, _ => Nat.le_refl _
  | n + 1, h => by
    have ih := two6 (P := P) (n := n) (fun k hk => h k (by omega))
    have a := one6 (P (2 * n)) (h _ (by omega))
    have b := one6 (P (2 * n + 1)) (h _ (by omega))
    have e : ∀ w, cnt (hp P w) (n + 1) ≤ cnt (hp P w) n + ((if P (2 * n) = w + 1 then 1 else 0) + (if P (2 * n + 1) = w + 1 then 1 else 0)) := by
      intro w
      show cnt (hp P w) n + (if hp P w n then 1 else 0) ≤ _
      by_cases q1 : P (2 * n) = w + 1 <;> by_cases q2 : P (2 * n + 1) = w + 1 <;> simp [hp, q1, q2]
    have e0 := e 0
    have e1 := e 1
    have e2 := e 2
    have e3 := e 3
    have e4 := e 4
    have e5 := e 5
    simp only [Nat.zero_add, Nat.reduceAdd] at e0 e1 e2 e3 e4 e5
    omega
theorem sgs_len {P : Nat → Nat} {n C : Nat} (hn : n ≤ 8) (h : ∀ k, k < 2 * n → P k ≤ 6) : (sgs P n C 6).length ≤ 14 := by
  have t := two6 h
  have c := fun w => cnt_le (hp P w) n
  have e : (sgs P n C 6).length = (sgW P n C 0).length + (sgW P n C 1).length + (sgW P n C 2).length + (sgW P n C 3).length + (sgW P n C 4).length + (sgW P n C 5).length := by
    simp [sgs, fo, Nat.add_assoc]
  have l0 := sgW_len P n C 0
  have l1 := sgW_len P n C 1
  have l2 := sgW_len P n C 2
  have l3 := sgW_len P n C 3
  have l4 := sgW_len P n C 4
  have l5 := sgW_len P n C 5
  have c0 := c 0
  have c1 := c 1
  have c2 := c 2
  have c3 := c 3
  have c4 := c 4
  have c5 := c 5
  omega
theorem sgs_pre {P : Nat → Nat} {n C : Nat} : ∀ {a b : Nat}, a ≤ b → (sgs P n C a).length ≤ (sgs P n C b).length
  | a, 0, h => by
    have : a = 0 := by omega
    subst this; exact Nat.le_refl _
  | a, b + 1, h => by
    rcases Nat.lt_or_ge a (b + 1) with h1 | h1
    · refine Nat.le_trans (sgs_pre (a := a) (b := b) (by omega)) ?_
      show _ ≤ (sgs P n C b ++ sgW P n C b).length
      rw [List.length_append]; omega
    · have : a = b + 1 := by omega
      subst this; exact Nat.le_refl _
theorem sgs_w {P : Nat → Nat} {n C w : Nat} (hw : w < 6) (hn : n ≤ 8) (h : ∀ k, k < 2 * n → P k ≤ 6) : (sgs P n C w).length + (sgW P n C w).length ≤ 14 := by
  have h1 := sgs_pre (P := P) (n := n) (C := C) (show w + 1 ≤ 6 by omega)
  have h2 := sgs_len (C := C) hn h
  have e : (sgs P n C (w + 1)).length = (sgs P n C w).length + (sgW P n C w).length := by
    show (sgs P n C w ++ sgW P n C w).length = _
    rw [List.length_append]
  omega
theorem pcs_pre {P : Nat → Nat} {w : Nat} : ∀ {a b : Nat}, a ≤ b → (pcs P w a).length ≤ (pcs P w b).length := by
  intro a b h
  rw [pcs_len, pcs_len]
  have := cnt_mono (hp P w) h
  omega
/-! ===== loops that keep a fact ===== -/
theorem lpI {A R : Type} (F : Nat → A → R) (I : Nat → A → Prop) (N : Nat) (out : A → R) (hN : N ≤ 1000000) (hs : ∀ n i a, i < N → I i a → ∃ a', I (i + 1) a' ∧ F (n + 1) a = F n a') (he : ∀ n a, I N a → F (n + 1) a = out a) (a : A) (h0 : I 0 a) : ∃ a', I N a' ∧ F FU a = out a' := by
  have key : ∀ (m i n : Nat) (a : A), i + m = N → m < n → I i a → ∃ a', I N a' ∧ F n a = out a' := by
    intro m
    induction m with
    | zero =>
      intro i n a hi hn h
      obtain ⟨k, rfl⟩ : ∃ k, n = k + 1 := ⟨n - 1, by omega⟩
      have : i = N := by omega
      subst this
      exact ⟨a, h, he k a h⟩
    | succ m ih =>
      intro i n a hi hn h
      obtain ⟨k, rfl⟩ : ∃ k, n = k + 1 := ⟨n - 1, by omega⟩
      obtain ⟨a', h1, h2⟩ := hs k i a (by omega) h
      obtain ⟨a2, h3, h4⟩ := ih (i + 1) k a' (by omega) (by omega) h1
      exact ⟨a2, h3, h2.trans h4⟩
  have := FU_big
  exact key N 0 FU a (by omega) (by omega) h0
/-- the state is the same but where S says -/
def Fr (S : Nat → Nat → Bool) (σ σ' : xSt) : Prop := (∀ c k, S c k = false → σ'.1 c k = σ.1 c k) ∧ σ'.2 = σ.2
theorem Fr.rf {S : Nat → Nat → Bool} {σ : xSt} : Fr S σ σ := ⟨fun _ _ _ => rfl, rfl⟩
theorem Fr.tr {S : Nat → Nat → Bool} {a b c : xSt} (h1 : Fr S a b) (h2 : Fr S b c) : Fr S a c := ⟨fun i k hk => (h2.1 i k hk).trans (h1.1 i k hk), h2.2.trans h1.2⟩
theorem Fr.up {S : Nat → Nat → Bool} {σ : xSt} {c k : Nat} {v : Int32} (h : S c k = true) : Fr S σ (up2 σ c k v) := by
  refine ⟨fun i j hij => ?_, rfl⟩
  rw [up2_at]
  split
  · rename_i q; rw [q.1, q.2, h] at hij; exact absurd hij (by decide)
  · rfl
theorem Fr.mono {S S' : Nat → Nat → Bool} {a b : xSt} (h : Fr S a b) (hs : ∀ c k, S' c k = false → S c k = false) : Fr S' a b := ⟨fun c k hk => h.1 c k (hs c k hk), h.2⟩
/-- the set of columns that hold -/
def cmk (p : Nat → Bool) : Nat → Nat := fo (fun i a => a ||| (if p i then 2 ^ i else 0)) 0
theorem cmk_bit {p : Nat → Bool} (i : Nat) : ∀ {N : Nat}, (cmk p N).testBit i = (decide (i < N) && p i)
  | 0 => by simp [cmk, fo]
  | N + 1 => by
    have ih := cmk_bit (p := p) i (N := N)
    show (cmk p N ||| (if p N then 2 ^ N else 0)).testBit i = _
    by_cases hp : p N = true
    · rw [if_pos hp, tb_or, ih]
      by_cases h1 : i = N
      · subst h1; simp [hp]
      · have : decide (i < N + 1) = decide (i < N) := by
          rw [Bool.eq_iff_iff, decide_eq_true_eq, decide_eq_true_eq]; omega
        simp [h1, this]
    · rw [if_neg hp, Nat.or_zero, ih]
      by_cases h1 : i = N
      · subst h1; simp [hp]
      · have : decide (i < N + 1) = decide (i < N) := by
          rw [Bool.eq_iff_iff, decide_eq_true_eq, decide_eq_true_eq]; omega
        rw [this]
theorem cmk_lt {p : Nat → Bool} : ∀ {N : Nat}, cmk p N < 2 ^ N
  | 0 => by show 0 < 1; omega
  | N + 1 => by
    have ih := cmk_lt (p := p) (N := N)
    show cmk p N ||| _ < 2 ^ (N + 1)
    refine or_lt (Nat.lt_trans ih (Nat.pow_lt_pow_right (by decide) (by omega))) ?_
    split
    · exact Nat.pow_lt_pow_right (by decide) (by omega)
    · exact Nat.pow_pos (by decide)
