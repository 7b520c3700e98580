/-! ===== the pure side: words to compute with ===== -/
theorem bnd_some {ρ α : Type} (r : ρ) (σ : xSt) (k : ρ → xSt → Option α) : bnd (some (r, σ)) k = k r σ := rfl
theorem jn_def {α β : Type} (k : α) (R : α → β) : jn k R = R k := rfl
theorem vb_def {α β : Type} (x : α) (k : α → β) : vb x k = k x := rfl
theorem FU_big : 900000000000 ≤ FU := Nat.le_trans (Nat.le_of_ble_eq_true rfl) FU_ge
/-- a Bool as the machine has it -/
def b2i (b : Bool) : Int32 := if b then 1 else 0
theorem b2i_t : b2i true = nI 1 := rfl
theorem b2i_f : b2i false = nI 0 := rfl
theorem b2i_0 (b : Bool) : (b2i b = nI 0) = (b = false) := by cases b <;> decide
theorem b2i_1 (b : Bool) : (b2i b = nI 1) = (b = true) := by cases b <;> decide
theorem gb_b2i {α : Type} (b : Bool) (o : Option α) : gb (b2i b) o = o := by cases b <;> rfl
theorem gb_0 {α : Type} (o : Option α) : gb 0 o = o := rfl
theorem gb_1 {α : Type} (o : Option α) : gb 1 o = o := rfl
theorem gb_n0 {α : Type} (o : Option α) : gb (nI 0) o = o := rfl
theorem gb_n1 {α : Type} (o : Option α) : gb (nI 1) o = o := rfl
theorem ite_b2i (c : Prop) [Decidable c] : (if c then (1 : Int32) else 0) = b2i (decide c) := by by_cases h : c <;> simp [h, b2i]
/-- numbers -/
theorem nI_leS {a b : Nat} (ha : a < 2147483648) (hb : b < 2147483648) : (nI a ≤ nI b) = (a ≤ b) := propext (nI_leI ha hb)
theorem nI_ltS {a b : Nat} (ha : a < 2147483648) (hb : b < 2147483648) : (nI a < nI b) = (a < b) := propext (nI_ltI ha hb)
theorem nI_eqS {a b : Nat} (ha : a < 2147483648) (hb : b < 2147483648) : (nI a = nI b) = (a = b) := propext (nI_eq ha hb)
theorem nI_clS {a : Nat} (ha : a < 2147483648) : (nI a).toNatClampNeg = a := nI_clamp ha
theorem lit_nI (n : Nat) : (OfNat.ofNat n : Int32) = nI n := rfl
theorem nI_neg {a : Nat} (ha : a < 2147483648) : (nI a < 0) = False := eq_false (nI_pos ha)
theorem gi_in {α : Type} {i : Int32} {j n : Nat} {o : Option α} (hi : i = nI j) (h : j < n) (hn : n < 1000) : gi i n o = o := by
  subst hi
  rw [gi, if_neg]
  rw [nI_clamp (by omega)]
  rintro (h1 | h1)
  · exact nI_pos (by omega) h1
  · omega
theorem gi_nI {α : Type} {j n : Nat} {o : Option α} (h : j < n) (hn : n < 1000) : gi (nI j) n o = o := gi_in rfl h hn
theorem mulI (a b : Nat) : nI a * nI b = nI (a * b) := pk_mul a b
theorem subI {a b : Nat} (h : b ≤ a) : nI a - nI b = nI (a - b) := pk_sub h
/-- none is 0, k is k + 1 -/
def tI (k : Nat) : Int32 := nI k - nI 1
theorem tI_succ (k : Nat) : tI (k + 1) = nI k := nI_pred k
theorem tI_0 : tI 0 = -nI 1 := by decide
theorem tI_cases (P : Int32 → Prop) (h0 : P (-nI 1)) (h1 : ∀ j, P (nI j)) (k : Nat) : P (tI k) := by
  cases k with
  | zero => rw [tI_0]; exact h0
  | succ k => rw [tI_succ]; exact h1 k
theorem m1_lt {b : Nat} (hb : b < 2147483648) : -nI 1 < nI b := by
  rw [Int32.lt_iff_toInt_lt, nI_toInt hb]
  show (-1 : Int) < b
  omega
theorem tI_leS {a b : Nat} (ha : a < 1000) (hb : b < 1000) : (tI a ≤ tI b) = (a ≤ b) := by
  cases a with
  | zero =>
    cases b with
    | zero => simp
    | succ b => rw [tI_0, tI_succ]; exact propext ⟨fun _ => by omega, fun _ => Int32.le_of_lt (m1_lt (by omega))⟩
  | succ a =>
    cases b with
    | zero => rw [tI_0, tI_succ]; exact propext ⟨fun h => absurd h (Int32.not_le.mpr (m1_lt (by omega))), fun h => by omega⟩
    | succ b => rw [tI_succ, tI_succ, nI_leS (by omega) (by omega)]; exact propext (by omega)
theorem tI_eqS {a b : Nat} (ha : a < 1000) (hb : b < 1000) : (tI a = tI b) = (a = b) := by
  apply propext
  constructor
  · intro h
    have h1 : tI a ≤ tI b := by rw [h]; exact Int32.le_refl _
    have h2 : tI b ≤ tI a := by rw [h]; exact Int32.le_refl _
    rw [tI_leS ha hb] at h1
    rw [tI_leS hb ha] at h2
    omega
  · intro h; rw [h]
theorem tI_ltS {a b : Nat} (ha : a < 1000) (hb : b < 1000) : (tI a < tI b) = (a < b) := by
  rw [← Int32.not_le, tI_leS hb ha]; exact propext (by omega)
theorem tI_m1 {a : Nat} (ha : a < 1000) : (tI a = -nI 1) = (a = 0) := by rw [← tI_0, tI_eqS ha (by omega)]
theorem nI_m1 {b : Nat} (hb : b < 2147483648) : (nI b = -nI 1) = False := eq_false (fun h => absurd (m1_lt hb) (by rw [h]; exact fun q => Int32.lt_irrefl q))
theorem tI_eqn {a r : Nat} (ha : a < 1000) (hr : r < 900) : (tI a = nI r) = (a = r + 1) := by rw [← tI_succ r, tI_eqS ha (by omega)]
theorem tI_eqn2 {a r : Nat} (ha : a < 1000) (hr : r < 900) : (nI r = tI a) = (r + 1 = a) := by rw [← tI_succ r, tI_eqS (by omega) ha]
theorem tI_ltn {a r : Nat} (ha : a < 1000) (hr : r < 900) : (tI a < nI r) = (a < r + 1) := by rw [← tI_succ r, tI_ltS ha (by omega)]
theorem tI_len {a r : Nat} (ha : a < 1000) (hr : r < 900) : (tI a ≤ nI r) = (a ≤ r + 1) := by rw [← tI_succ r, tI_leS ha (by omega)]
theorem tI_nle {a r : Nat} (ha : a < 1000) (hr : r < 900) : (nI r ≤ tI a) = (r + 1 ≤ a) := by rw [← tI_succ r, tI_leS (by omega) ha]
theorem tI_nlt {a r : Nat} (ha : a < 1000) (hr : r < 900) : (nI r < tI a) = (r + 1 < a) := by rw [← tI_succ r, tI_ltS (by omega) ha]
theorem gi_lit {α : Type} {j n : Nat} {o : Option α} (h : j < n) (hn : n < 1000) : gi (nI j) n o = o := gi_in rfl h hn
theorem gz_nI {α : Type} {j : Nat} {o : Option α} (h : 0 < j) (hj : j < 2147483648) : gz (nI j) o = o := by
  rw [gz, if_neg]
  exact nI_ne0 h hj
theorem up2_same (σ : xSt) (c k : Nat) (v : Int32) : (up2 σ c k v).1 c k = v := by simp [up2, upd]
theorem up2_cell (σ : xSt) {c c' : Nat} (k k' : Nat) (v : Int32) (h : c' ≠ c) : (up2 σ c k v).1 c' k' = σ.1 c' k' := by simp [up2, h]
theorem up2_place (σ : xSt) (c c' : Nat) {k k' : Nat} (v : Int32) (h : k' ≠ k) : (up2 σ c k v).1 c' k' = σ.1 c' k' := by
  by_cases hc : c' = c
  · subst hc; simp [up2, upd, h]
  · simp [up2, hc]
theorem up2_at (σ : xSt) (c c' k k' : Nat) (v : Int32) : (up2 σ c k v).1 c' k' = if c' = c ∧ k' = k then v else σ.1 c' k' := by
  by_cases hc : c' = c
  · subst hc
    by_cases hk : k' = k
    · subst hk; simp [up2, upd]
    · simp [up2, upd, hk]
  · simp [up2, hc]
theorem up2_2 (σ : xSt) (c k : Nat) (v : Int32) : (up2 σ c k v).2 = σ.2 := rfl
theorem upl_1 (σ : xSt) (v : Int64) : (upl σ v).1 = σ.1 := rfl
theorem upl_2 (σ : xSt) (v : Int64) : (upl σ v).2 = v := rfl
/-! loops -/
theorem lpD {A R : Type} (F : Nat → A → R) (st : Nat → A) (N : Nat) (out : R) (hs : ∀ n i, i < N → F (n + 1) (st i) = F n (st (i + 1))) (he : ∀ n, F (n + 1) (st N) = out) : ∀ (m i n : Nat), i + m = N → m < n → F n (st i) = out := by
  intro m
  induction m with
  | zero =>
    intro i n hi hn
    obtain ⟨k, rfl⟩ : ∃ k, n = k + 1 := ⟨n - 1, by omega⟩
    have : i = N := by omega
    subst this
    exact he k
  | succ m ih =>
    intro i n hi hn
    obtain ⟨k, rfl⟩ : ∃ k, n = k + 1 := ⟨n - 1, by omega⟩
    rw [hs k i (by omega)]
    exact ih (i + 1) k (by omega) (by omega)
theorem lpF {A R : Type} (F : Nat → A → R) (st : Nat → A) (N : Nat) (out : R) (hN : N ≤ 1000000) (hs : ∀ n i, i < N → F (n + 1) (st i) = F n (st (i + 1))) (he : ∀ n, F (n + 1) (st N) = out) : F FU (st 0) = out := by
  have := FU_big
  exact lpD F st N out hs he N 0 FU (by omega) (by omega)
/-- a loop that ends early, at the place e -/
theorem lpE {A R : Type} (F : Nat → A → R) (st : Nat → A) (N : Nat) (out : R) (e : Nat) (hN : e ≤ N) (hN2 : N ≤ 1000000) (hs : ∀ n i, i < e → F (n + 1) (st i) = F n (st (i + 1))) (he : ∀ n, F (n + 1) (st e) = out) : F FU (st 0) = out := lpF F st e out (by omega) hs he
def fo {α : Type} (g : Nat → α → α) (a : α) : Nat → α
  | 0 => a
  | i + 1 => g i (fo g a i)
theorem fo_congr {α : Type} {g h : Nat → α → α} {a : α} : ∀ {N : Nat}, (∀ i, i < N → ∀ x, g i x = h i x) → fo g a N = fo h a N
  | 0, _ => rfl
  | N + 1, H => by
    rw [fo, fo, fo_congr (N := N) (fun i hi x => H i (by omega) x), H N (by omega)]
def exB (p : Nat → Bool) : Nat → Bool := fo (fun i b => b || p i) false
def alB (p : Nat → Bool) : Nat → Bool := fo (fun i b => b && p i) true
def cnt (p : Nat → Bool) : Nat → Nat := fo (fun i a => a + (if p i then 1 else 0)) 0
theorem exB_iff {p : Nat → Bool} : ∀ {N : Nat}, exB p N = true ↔ ∃ i, i < N ∧ p i = true
  | 0 => by simp [exB, fo]
  | N + 1 => by
    have ih := exB_iff (p := p) (N := N)
    show (exB p N || p N) = true ↔ _
    rw [Bool.or_eq_true, ih]
    constructor
    · rintro (⟨i, h1, h2⟩ | h)
      · exact ⟨i, by omega, h2⟩
      · exact ⟨N, by omega, h⟩
    · rintro ⟨i, h1, h2⟩
      rcases Nat.lt_or_ge i N with h | h
      · exact Or.inl ⟨i, h, h2⟩
      · have : i = N := by omega
        subst this; exact Or.inr h2
theorem alB_iff {p : Nat → Bool} : ∀ {N : Nat}, alB p N = true ↔ ∀ i, i < N → p i = true
  | 0 => by simp [alB, fo]
  | N + 1 => by
    have ih := alB_iff (p := p) (N := N)
    show (alB p N && p N) = true ↔ _
    rw [Bool.and_eq_true, ih]
    constructor
    · rintro ⟨h1, h2⟩ i hi
      rcases Nat.lt_or_ge i N with h | h
      · exact h1 i h
      · have : i = N := by omega
        subst this; exact h2
    · intro h
      exact ⟨fun i hi => h i (by omega), h N (by omega)⟩
theorem cnt_le (p : Nat → Bool) : ∀ n, cnt p n ≤ n
  | 0 => Nat.le_refl _
  | n + 1 => by
    have := cnt_le p n
    show cnt p n + (if p n then 1 else 0) ≤ n + 1
    split <;> omega
theorem cnt_congr {p q : Nat → Bool} : ∀ {N : Nat}, (∀ i, i < N → p i = q i) → cnt p N = cnt q N
  | 0, _ => rfl
  | N + 1, h => by
    show cnt p N + _ = cnt q N + _
    rw [cnt_congr (N := N) (fun i hi => h i (by omega)), h N (by omega)]
def mxN (f : Nat → Nat) : Nat → Nat := fo (fun i a => if f i ≤ a then a else f i) 0
theorem mxN_le {f : Nat → Nat} {b : Nat} : ∀ {N : Nat}, (∀ i, i < N → f i ≤ b) → mxN f N ≤ b
  | 0, _ => Nat.zero_le _
  | N + 1, h => by
    show (if f N ≤ mxN f N then mxN f N else f N) ≤ b
    have := mxN_le (f := f) (b := b) (N := N) (fun i hi => h i (by omega))
    split
    · exact this
    · exact h N (by omega)
/-! masks -/
theorem sh1 {k : Nat} (h : k < 31) : (1 : Int32) <<< (nI k &&& 31) = nI (2 ^ k) := by
  have : ∀ k, k < 31 → (1 : Int32) <<< (nI k &&& 31) = nI (2 ^ k) := by decide +kernel
  exact this k h
theorem orI (a b : Nat) : nI a ||| nI b = nI (a ||| b) := by
  apply Int32.toBitVec_inj.1
  show BitVec.ofNat 32 a ||| BitVec.ofNat 32 b = BitVec.ofNat 32 (a ||| b)
  apply BitVec.eq_of_getLsbD_eq
  intro i hi
  simp [hi]
theorem andI (a b : Nat) : nI a &&& nI b = nI (a &&& b) := by
  apply Int32.toBitVec_inj.1
  show BitVec.ofNat 32 a &&& BitVec.ofNat 32 b = BitVec.ofNat 32 (a &&& b)
  apply BitVec.eq_of_getLsbD_eq
  intro i hi
  simp [hi]
theorem xorI (a b : Nat) : nI a ^^^ nI b = nI (a ^^^ b) := by
  apply Int32.toBitVec_inj.1
  show BitVec.ofNat 32 a ^^^ BitVec.ofNat 32 b = BitVec.ofNat 32 (a ^^^ b)
  apply BitVec.eq_of_getLsbD_eq
  intro i hi
  simp [hi]
theorem sh_sm : ∀ k, k < 31 → ((nI k &&& 31).toBitVec.smod 32).toNat = k := by decide +kernel
theorem bitI {m k : Nat} (hm : m < 2147483648) (hk : k < 31) : (nI m >>> (nI k &&& 31)) &&& 1 = b2i (m.testBit k) := by
  rw [pk_shrN hm _ k (sh_sm k hk), pk_andN (k := 1) (Nat.lt_of_le_of_lt (Nat.div_le_self _ _) (by omega)) (by decide)]
  rw [Nat.testBit_eq_decide_div_mod_eq]
  rcases Nat.mod_two_eq_zero_or_one (m / 2 ^ k) with h | h <;> rw [show (2 : Nat) ^ 1 = 2 from rfl, h] <;> rfl
theorem bit0 {m k : Nat} (hm : m < 2147483648) (hk : k < 31) : (nI m &&& ((1 : Int32) <<< (nI k &&& 31)) = 0) = (m.testBit k = false) := by
  rw [sh1 hk, andI]
  have h2 : (2 : Nat) ^ k < 2 ^ 31 := Nat.pow_lt_pow_right (by decide) hk
  have hle : m &&& 2 ^ k ≤ 2 ^ k := Nat.and_le_right
  rw [show (0 : Int32) = nI 0 from rfl, nI_eqS (by omega) (by omega)]
  apply propext
  constructor
  · intro h
    have h1 : (m &&& 2 ^ k).testBit k = false := by rw [h]; simp
    rw [Nat.testBit_and] at h1
    simpa using h1
  · intro h
    apply Nat.eq_of_testBit_eq
    intro i
    rw [Nat.testBit_and, Nat.zero_testBit]
    by_cases e : k = i
    · subst e; simp [h]
    · simp [Nat.testBit_two_pow_of_ne e]
theorem and31 : ∀ k, k < 32 → k &&& 31 = k := by decide +kernel
theorem bitN {m k : Nat} (hm : m < 2147483648) (hk : k < 31) : (nI m >>> nI (k &&& 31)) &&& nI 1 = b2i (m.testBit k) := by rw [← andI]; exact bitI hm hk
theorem sh1N {k : Nat} (h : k < 31) : nI 1 <<< nI (k &&& 31) = nI (2 ^ k) := by rw [← andI]; exact sh1 h
theorem bit0N {m k : Nat} (hm : m < 2147483648) (hk : k < 31) : (nI (m &&& 2 ^ k) = nI 0) = (m.testBit k = false) := by rw [← andI, ← sh1 hk]; exact bit0 hm hk
theorem n10 : ((1 : Nat) = 0) = False := eq_false (by decide)
theorem n01 : ((0 : Nat) = 1) = False := eq_false (by decide)
theorem tb_or (n j i : Nat) : (n ||| 2 ^ j).testBit i = (n.testBit i || decide (i = j)) := by
  rw [Nat.testBit_or]
  by_cases h : j = i
  · subst h; simp
  · have h2 : ¬ i = j := fun e => h e.symm
    simp [Nat.testBit_two_pow_of_ne h, h2]
theorem or_lt {a b n : Nat} (ha : a < 2 ^ n) (hb : b < 2 ^ n) : a ||| b < 2 ^ n := Nat.or_lt_two_pow ha hb
/-! ===== what the reference's words answer ===== -/
theorem e7_within (v a b : Int32) (σ : xSt) : f_X7_within v a b σ = some (b2i (decide (a ≤ v) && decide (v ≤ b)), σ) := by
  simp only [f_X7_within, jn_def]
  by_cases h1 : v < a
  · have : ¬ a ≤ v := Int32.not_le.mpr h1
    simp [h1, this, gb_0, b2i]
  · have h1' : a ≤ v := Int32.not_lt.mp h1
    by_cases h2 : b < v
    · have : ¬ v ≤ b := Int32.not_le.mpr h2
      simp [h1, h2, this, gb_0, b2i]
    · have h2' : v ≤ b := Int32.not_lt.mp h2
      simp [h1, h2, h1', h2', gb_1, b2i]
theorem e7_isBit {m k : Nat} (hm : m < 2147483648) (hk : k < 31) (σ : xSt) : f_X7_isBit (nI m) (nI k) σ = some (b2i (m.testBit k), σ) := by
  simp (disch := omega) only [lit_nI, nI_leS, nI_ltS, nI_eqS, nI_clS, nI_add, mulI, tI_leS, tI_ltS, tI_eqS, tI_m1, nI_m1, tI_eqn, tI_eqn2, tI_ltn, tI_nle, tI_len, tI_nlt, gi_nI, gi_lit, gz_nI, bnd_some, jn_def, vb_def, if_true, if_false, b2i_0, b2i_1, b2i_t, b2i_f, gb_b2i, gb_n0, gb_n1, bitN, bit0N, sh1N, orI, andI, e7_within, ite_self, n10, n01, Bool.true_eq_false, Bool.false_eq_true, f_X7_isBit]
  cases m.testBit k <;> rfl
/-- how many of the first n bits -/
def pc (m : Nat) : Nat → Nat := fo (fun i a => a + (if m.testBit i then 1 else 0)) 0
theorem pc_le (m : Nat) : ∀ n, pc m n ≤ n
  | 0 => Nat.le_refl _
  | n + 1 => by
    have := pc_le m n
    show pc m n + (if m.testBit n then 1 else 0) ≤ n + 1
    split <;> omega
theorem nI_b2i (a : Nat) (b : Bool) : nI a + b2i b = nI (a + if b then 1 else 0) := by
  cases b
  · show nI a + nI 0 = _; rw [nI_add]; rfl
  · show nI a + nI 1 = _; rw [nI_add]; rfl
theorem e7_size {m : Nat} (hm : m < 2147483648) (σ : xSt) : f_X7_size (nI m) σ = some (nI (pc m 16), σ) := by
  rw [f_X7_size]
  refine lpF (fun n (a : Int32 × Int32) => f_X7_size_4 (nI m) (fun e2 s3 => some (e2, s3)) n a.1 a.2 σ) (fun i => (nI (pc m i), nI i)) 16 _ (by omega) (fun n i hi => ?_) (fun n => ?_)
  · have h0 : ¬ 16 ≤ i := by omega
    simp (disch := omega) only [lit_nI, nI_leS, nI_ltS, nI_eqS, nI_clS, nI_add, mulI, tI_leS, tI_ltS, tI_eqS, tI_m1, nI_m1, tI_eqn, tI_eqn2, tI_ltn, tI_nle, tI_len, tI_nlt, gi_nI, gi_lit, gz_nI, bnd_some, jn_def, vb_def, if_true, if_false, b2i_0, b2i_1, b2i_t, b2i_f, gb_b2i, gb_n0, gb_n1, bitN, bit0N, sh1N, orI, andI, e7_within, ite_self, n10, n01, Bool.true_eq_false, Bool.false_eq_true, f_X7_size_4, h0, nI_b2i]
    rfl
  · simp (disch := omega) only [lit_nI, nI_leS, nI_ltS, nI_eqS, nI_clS, nI_add, mulI, tI_leS, tI_ltS, tI_eqS, tI_m1, nI_m1, tI_eqn, tI_eqn2, tI_ltn, tI_nle, tI_len, tI_nlt, gi_nI, gi_lit, gz_nI, bnd_some, jn_def, vb_def, if_true, if_false, b2i_0, b2i_1, b2i_t, b2i_f, gb_b2i, gb_n0, gb_n1, bitN, bit0N, sh1N, orI, andI, e7_within, ite_self, n10, n01, Bool.true_eq_false, Bool.false_eq_true, f_X7_size_4, Nat.le_refl]
/-- the first place of [i, n) that holds, else n -/
def fst (p : Nat → Bool) (n : Nat) : Nat := fo (fun i a => if a < i then a else if p i then i else i + 1) 0 n
theorem fst_le (p : Nat → Bool) : ∀ n, fst p n ≤ n
  | 0 => Nat.le_refl _
  | n + 1 => by
    have := fst_le p n
    show (if fst p n < n then fst p n else if p n then n else n + 1) ≤ n + 1
    split
    · omega
    · split <;> omega
theorem fst_no (p : Nat → Bool) : ∀ n k, k < fst p n → p k = false
  | 0, k, h => absurd h (Nat.not_lt_zero k)
  | n + 1, k, h => by
    have hl := fst_le p n
    have ih := fst_no p n
    have e : fst p (n + 1) = (if fst p n < n then fst p n else if p n then n else n + 1) := rfl
    rw [e] at h
    split at h
    · exact ih k h
    · rename_i h1
      have h2 : fst p n = n := by omega
      by_cases hp : p n = true
      · rw [if_pos hp] at h; exact ih k (by omega)
      · rw [if_neg hp] at h
        rcases Nat.lt_or_ge k n with h3 | h3
        · exact ih k (by omega)
        · have : k = n := by omega
          subst this
          simpa using hp
theorem fst_yes (p : Nat → Bool) : ∀ n, fst p n < n → p (fst p n) = true
  | 0, h => absurd h (Nat.not_lt_zero _)
  | n + 1, h => by
    have hl := fst_le p n
    have ih := fst_yes p n
    have e : fst p (n + 1) = (if fst p n < n then fst p n else if p n then n else n + 1) := rfl
    rw [e] at h ⊢
    by_cases h1 : fst p n < n
    · rw [if_pos h1]; exact ih h1
    · rw [if_neg h1] at h ⊢
      by_cases hp : p n = true
      · rw [if_pos hp]; exact hp
      · rw [if_neg hp] at h; omega
theorem fst_eq {p : Nat → Bool} {n e : Nat} (he : e ≤ n) (h1 : ∀ k, k < e → p k = false) (h2 : e < n → p e = true) : fst p n = e := by
  have a := fst_le p n
  have b := fst_no p n
  have c := fst_yes p n
  rcases Nat.lt_trichotomy (fst p n) e with h | h | h
  · have := c (by omega)
    rw [h1 _ h] at this
    exact absurd this (by decide)
  · exact h
  · have := b e h
    rw [h2 (by omega)] at this
    exact absurd this (by decide)
/-- the least bit of the first n, or -1 -/
def lowB (x : Nat) (n : Nat) : Int32 := if fst (fun k => x.testBit k) n < n then nI (fst (fun k => x.testBit k) n) else -nI 1
theorem e7_leastOf {m : Nat} (hm : m < 2147483648) (σ : xSt) : f_X7_leastOf (nI m) σ = some (lowB m 16, σ) := by
  rw [f_X7_leastOf]
  have hl := fst_le (fun k => m.testBit k) 16
  refine lpE (fun n (a : Int32) => f_X7_leastOf_2 (nI m) _ n a σ) (fun i => nI i) 16 _ (fst (fun k => m.testBit k) 16) hl (by omega) (fun n i hi => ?_) (fun n => ?_)
  · have h0 : ¬ 16 ≤ i := by omega
    have h1 : m.testBit i = false := fst_no _ _ _ hi
    simp (disch := omega) only [lit_nI, nI_leS, nI_ltS, nI_eqS, nI_clS, nI_add, mulI, tI_leS, tI_ltS, tI_eqS, tI_m1, nI_m1, tI_eqn, tI_eqn2, tI_ltn, tI_nle, tI_len, tI_nlt, gi_nI, gi_lit, gz_nI, bnd_some, jn_def, vb_def, if_true, if_false, b2i_0, b2i_1, b2i_t, b2i_f, gb_b2i, gb_n0, gb_n1, bitN, bit0N, sh1N, orI, andI, e7_within, ite_self, n10, n01, Bool.true_eq_false, Bool.false_eq_true, f_X7_leastOf_2, h0, e7_isBit, h1]
  · generalize he : fst (fun k => m.testBit k) 16 = e at hl
    rcases Nat.lt_or_ge e 16 with h | h
    · have hy : m.testBit e = true := by
        have := fst_yes (fun k => m.testBit k) 16 (by omega)
        rwa [he] at this
      have h0 : ¬ 16 ≤ e := by omega
      simp (disch := omega) only [lit_nI, nI_leS, nI_ltS, nI_eqS, nI_clS, nI_add, mulI, tI_leS, tI_ltS, tI_eqS, tI_m1, nI_m1, tI_eqn, tI_eqn2, tI_ltn, tI_nle, tI_len, tI_nlt, gi_nI, gi_lit, gz_nI, bnd_some, jn_def, vb_def, if_true, if_false, b2i_0, b2i_1, b2i_t, b2i_f, gb_b2i, gb_n0, gb_n1, bitN, bit0N, sh1N, orI, andI, e7_within, ite_self, n10, n01, Bool.true_eq_false, Bool.false_eq_true, f_X7_leastOf_2, h0, e7_isBit, hy, lowB, he, h]
    · have h0 : 16 ≤ e := h
      have h1 : ¬ e < 16 := by omega
      simp (disch := omega) only [lit_nI, nI_leS, nI_ltS, nI_eqS, nI_clS, nI_add, mulI, tI_leS, tI_ltS, tI_eqS, tI_m1, nI_m1, tI_eqn, tI_eqn2, tI_ltn, tI_nle, tI_len, tI_nlt, gi_nI, gi_lit, gz_nI, bnd_some, jn_def, vb_def, if_true, if_false, b2i_0, b2i_1, b2i_t, b2i_f, gb_b2i, gb_n0, gb_n1, bitN, bit0N, sh1N, orI, andI, e7_within, ite_self, n10, n01, Bool.true_eq_false, Bool.false_eq_true, f_X7_leastOf_2, h0, lowB, he, h1]
