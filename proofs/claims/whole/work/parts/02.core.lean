/-! the words that are kept over a call -/
def xT : List Cond := lw_tbl.filter goodWord
theorem xT_in {w : Cond} (h : w ∈ xT) : w ∈ lw_tbl := (List.mem_filter.mp h).1
theorem xT_of {w : Cond} (i : Nat) (h : lw_tbl[i]? = some w) (g : goodWord w = true) : w ∈ xT := List.mem_filter.mpr ⟨List.mem_of_getElem? h, g⟩
theorem xT_good {w : Cond} (h : w ∈ xT) : goodWord w = true := (List.mem_filter.mp h).2
theorem x_GoodIn {ws : List Cond} (h : ∀ w ∈ ws, w ∈ xT) : GoodIn xT ws := fun w hw => ⟨h w hw, good_of_word (xT_good (h w hw))⟩
/-! ===== the pure state: ints by cell and place, one long ===== -/
abbrev xSt : Type := (Nat → Nat → Int32) × Int64
abbrev xCl : Type := Nat ⊕ (Nat × List (Option Nat × Bool))
abbrev xSh : Type := List xCl
def up2 (σ : xSt) (c k : Nat) (v : Int32) : xSt := (fun c' => if c' = c then upd (σ.1 c) k v else σ.1 c', σ.2)
def upl (σ : xSt) (v : Int64) : xSt := (σ.1, v)
def x_fv (ad : Nat → Nat) (σ : xSt) (i k : Nat) (f : Option Nat × Bool) : Value := match f with
  | (some j, _) => .ref (ad j)
  | (none, false) => .int (σ.1 i k)
  | (none, true) => .long σ.2
def x_ce (ad : Nat → Nat) (cI : ClassId) (σ : xSt) (i : Nat) (c : xCl) : va_E := match c with
  | .inl n => .inl (cI, n, .inl (σ.1 i))
  | .inr o => .inr (o.1, o.2.mapIdx (fun k f => x_fv ad σ i k f))
def x_w (ad : Nat → Nat) (cI : ClassId) (sh : xSh) (σ : xSt) : va_W := sh.mapIdx (fun i c => (ad i, x_ce ad cI σ i c))
theorem x_w_at {ad : Nat → Nat} {cI : ClassId} {sh : xSh} {σ : xSt} {i : Nat} {c : xCl} (h : sh[i]? = some c) : (x_w ad cI sh σ)[i]? = some (ad i, x_ce ad cI σ i c) := by
  simp [x_w, h]
theorem x_w_inv {ad : Nat → Nat} {cI : ClassId} {sh : xSh} {σ : xSt} {i : Nat} {q : Nat × va_E} (h : (x_w ad cI sh σ)[i]? = some q) : ∃ c, sh[i]? = some c ∧ q = (ad i, x_ce ad cI σ i c) := by
  simp only [x_w, List.getElem?_mapIdx, Option.map_eq_some_iff] at h
  obtain ⟨c, h1, h2⟩ := h
  exact ⟨c, h1, h2.symm⟩
theorem x_D {ad : Nat → Nat} {cI : ClassId} {sh : xSh} {σ σ' : xSt} {A : Nat → Prop} (h : va_D A (x_w ad cI sh σ)) : va_D A (x_w ad cI sh σ') := by
  refine ⟨fun i j p q hp hq e => ?_, fun k q hq => ?_⟩
  · obtain ⟨c, h1, rfl⟩ := x_w_inv hp
    obtain ⟨d, h2, rfl⟩ := x_w_inv hq
    exact h.1 i j _ _ (x_w_at h1) (x_w_at h2) e
  · obtain ⟨c, h1, rfl⟩ := x_w_inv hq
    have h2 := h.2 k _ (x_w_at (ad := ad) (cI := cI) (σ := σ) h1)
    exact h2
theorem x_A {ad : Nat → Nat} {cI : ClassId} {sh : xSh} {σ σ' : xSt} {sz q : Nat} (h : va_A (x_w ad cI sh σ) sz q) : va_A (x_w ad cI sh σ') sz q := by
  rcases h with ⟨k, e, h⟩ | h
  · obtain ⟨c, h1, h2⟩ := x_w_inv h
    cases h2
    exact Or.inl ⟨k, _, x_w_at h1⟩
  · exact Or.inr h
/-- a store into a row of ints -/
theorem x_w_ast {ad : Nat → Nat} {cI : ClassId} {sh : xSh} {σ : xSt} {c n : Nat} (h : sh[c]? = some (.inl n)) (k : Nat) (v : Int32) : (x_w ad cI sh σ).set c (ad c, .inl (cI, n, .inl (upd (σ.1 c) k v))) = x_w ad cI sh (up2 σ c k v) := by
  apply List.ext_getElem?
  intro i
  by_cases hi : i = c
  · subst hi
    rw [x_w_at h]
    have hl : i < (x_w ad cI sh σ).length := by simp [x_w]; exact (List.getElem?_eq_some_iff.mp h).1
    rw [List.getElem?_set_self hl]
    simp [x_ce, up2]
  · rw [List.getElem?_set_ne (fun e => hi e.symm)]
    simp only [x_w, List.getElem?_mapIdx]
    cases hs : sh[i]? with
    | none => rfl
    | some d =>
      cases d with
      | inl n => simp [x_ce, up2, hi]
      | inr o =>
        simp only [Option.map_some, x_ce]
        have e : (fun k f => x_fv ad σ i k f) = (fun j f => x_fv ad (up2 σ c k v) i j f) := by
          funext j f
          simp only [x_fv, up2, hi, if_false]
        rw [e]
/-- a store into an int field -/
theorem x_w_fst {ad : Nat → Nat} {cI : ClassId} {sh : xSh} {σ : xSt} {c k ci : Nat} {fs : List (Option Nat × Bool)} (h : sh[c]? = some (.inr (ci, fs))) (hf : fs[k]? = some (none, false)) (v : Int32) : (x_w ad cI sh σ).set c (ad c, .inr (ci, (fs.mapIdx (fun k f => x_fv ad σ c k f)).set k (.int v))) = x_w ad cI sh (up2 σ c k v) := by
  apply List.ext_getElem?
  intro i
  by_cases hi : i = c
  · subst hi
    rw [x_w_at h]
    have hl : i < (x_w ad cI sh σ).length := by simp [x_w]; exact (List.getElem?_eq_some_iff.mp h).1
    rw [List.getElem?_set_self hl]
    simp only [x_ce]
    congr 4
    apply List.ext_getElem?
    intro j
    by_cases hj : j = k
    · subst hj
      have hl2 : j < (fs.mapIdx (fun k f => x_fv ad σ i k f)).length := by simp; exact (List.getElem?_eq_some_iff.mp hf).1
      rw [List.getElem?_set_self hl2]
      simp [hf, x_fv, up2, upd]
    · rw [List.getElem?_set_ne (fun e => hj e.symm)]
      simp only [List.getElem?_mapIdx]
      cases hs : fs[j]? with
      | none => rfl
      | some f =>
        obtain ⟨a, b⟩ := f
        cases a <;> cases b <;> simp [x_fv, up2, upd, hj]
  · rw [List.getElem?_set_ne (fun e => hi e.symm)]
    simp only [x_w, List.getElem?_mapIdx]
    cases hs : sh[i]? with
    | none => rfl
    | some d =>
      cases d with
      | inl n => simp [x_ce, up2, hi]
      | inr o =>
        simp only [Option.map_some, x_ce]
        have e : (fun k f => x_fv ad σ i k f) = (fun j f => x_fv ad (up2 σ c k v) i j f) := by
          funext j f
          simp only [x_fv, up2, hi, if_false]
        rw [e]
/-- a store into the long field -/
theorem x_w_lst {ad : Nat → Nat} {cI : ClassId} {sh : xSh} {σ : xSt} {c k ci : Nat} {fs : List (Option Nat × Bool)} (h : sh[c]? = some (.inr (ci, fs))) (hf : fs[k]? = some (none, true))
    (hu : ∀ (i ci2 : Nat) (g : List (Option Nat × Bool)) (j : Nat), sh[i]? = some (.inr (ci2, g)) → g[j]? = some (none, true) → i = c ∧ j = k) (v : Int64) : (x_w ad cI sh σ).set c (ad c, .inr (ci, (fs.mapIdx (fun k f => x_fv ad σ c k f)).set k (.long v))) = x_w ad cI sh (upl σ v) := by
  apply List.ext_getElem?
  intro i
  by_cases hi : i = c
  · subst hi
    rw [x_w_at h]
    have hl : i < (x_w ad cI sh σ).length := by simp [x_w]; exact (List.getElem?_eq_some_iff.mp h).1
    rw [List.getElem?_set_self hl]
    simp only [x_ce]
    congr 4
    apply List.ext_getElem?
    intro j
    by_cases hj : j = k
    · subst hj
      have hl2 : j < (fs.mapIdx (fun k f => x_fv ad σ i k f)).length := by simp; exact (List.getElem?_eq_some_iff.mp hf).1
      rw [List.getElem?_set_self hl2]
      simp [hf, x_fv, upl]
    · rw [List.getElem?_set_ne (fun e => hj e.symm)]
      simp only [List.getElem?_mapIdx]
      cases hs : fs[j]? with
      | none => rfl
      | some f =>
        obtain ⟨a, b⟩ := f
        cases a with
        | some a => rfl
        | none =>
          cases b with
          | false => rfl
          | true => exact absurd (hu i ci fs j h hs).2 hj
  · rw [List.getElem?_set_ne (fun e => hi e.symm)]
    simp only [x_w, List.getElem?_mapIdx]
    cases hs : sh[i]? with
    | none => rfl
    | some d =>
      cases d with
      | inl n => rfl
      | inr o =>
        simp only [Option.map_some, x_ce]
        have e : o.2.mapIdx (fun k f => x_fv ad σ i k f) = o.2.mapIdx (fun j f => x_fv ad (upl σ v) i j f) := by
          apply List.ext_getElem?
          intro j
          simp only [List.getElem?_mapIdx]
          cases hg : o.2[j]? with
          | none => rfl
          | some f =>
            obtain ⟨a, b⟩ := f
            cases a with
            | some a => rfl
            | none =>
              cases b with
              | false => rfl
              | true => exact absurd (hu i o.1 o.2 j hs hg).1 hi
        rw [e]
/-! ===== values and locals: a reference is the number of its cell ===== -/
def x_v (ad : Nat → Nat) (v : Value) : Value := match v with
  | .ref i => .ref (ad i)
  | w => w
theorem x_v_cat (ad : Nat → Nat) (v : Value) : (x_v ad v).category = v.category := by cases v <;> rfl
def x_L (ad : Nat → Nat) (nL : Nat) (L : List (Option Value)) (ls : Array Slot) : Prop := ls.size = nL ∧ lv_wf ls ∧ ∀ (i : Nat) (v : Value), L[i]? = some (some v) → ls[i]? = some (.val (x_v ad v))
def x_lv (ad : Nat → Nat) (L : List (Option Value)) : List (Nat × Value) := (List.range L.length).filterMap (fun i => (L[i]?.join).map (fun v => (i, x_v ad v)))
theorem x_lv_mem {ad : Nat → Nat} {L : List (Option Value)} {q : Nat × Value} : q ∈ x_lv ad L ↔ ∃ v, L[q.1]? = some (some v) ∧ q.2 = x_v ad v := by
  simp only [x_lv, List.mem_filterMap, List.mem_range, Option.map_eq_some_iff]
  constructor
  · rintro ⟨i, hi, v, hv, rfl⟩
    refine ⟨v, ?_, rfl⟩
    cases h : L[i]? with
    | none => rw [h] at hv; cases hv
    | some w => rw [h] at hv; exact congrArg some hv
  · rintro ⟨v, hv, h2⟩
    refine ⟨q.1, (List.getElem?_eq_some_iff.mp hv).1, v, by rw [hv]; rfl, ?_⟩
    rw [← h2]
theorem x_L.has {ad : Nat → Nat} {nL : Nat} {L : List (Option Value)} {ls : Array Slot} (h : x_L ad nL L ls) : lv_has ls nL (x_lv ad L) := by
  refine ⟨h.1, h.2.1, fun q hq => ?_⟩
  obtain ⟨v, h1, h2⟩ := x_lv_mem.mp hq
  rw [h2]
  exact h.2.2 _ _ h1
/-- no long begins just ahead of i -/
def x_nl (L : List (Option Value)) (i : Nat) : Bool := match i with
  | 0 => true
  | j + 1 => match L[j]? with
    | some (some v) => v.category == 1
    | _ => true
theorem x_L.st1 {ad : Nat → Nat} {nL i : Nat} {L : List (Option Value)} {ls' : Array Slot} {v : Value} (hn : x_nl L i = true) (h : lv_has ls' nL ((i, x_v ad v) :: (x_lv ad L).filter (fun q => !(q.1 == i) && !(q.1 + 1 == i && q.2.category == 2)))) : x_L ad nL (L.set i (some v)) ls' := by
  refine ⟨h.1, h.2.1, fun j w hj => ?_⟩
  by_cases hji : j = i
  · subst hji
    rw [List.getElem?_set_self (by
      have h1 := (List.getElem?_eq_some_iff.mp hj).1
      simpa using h1)] at hj
    cases hj
    exact h.2.2 (j, x_v ad v) (List.mem_cons_self)
  · rw [List.getElem?_set_ne (fun e => hji e.symm)] at hj
    refine h.2.2 (j, x_v ad w) (List.mem_cons_of_mem _ (List.mem_filter.mpr ⟨x_lv_mem.mpr ⟨w, hj, rfl⟩, ?_⟩))
    simp only [Bool.and_eq_true, Bool.not_eq_true', beq_eq_false_iff_ne, ne_eq, Bool.and_eq_false_iff, x_v_cat]
    refine ⟨hji, ?_⟩
    by_cases h1 : j + 1 = i
    · right
      subst h1
      simp only [x_nl, hj, beq_iff_eq] at hn
      rw [hn]; decide
    · left; exact h1
theorem x_L.st2 {ad : Nat → Nat} {nL i : Nat} {L : List (Option Value)} {ls' : Array Slot} {v : Value} (hn : x_nl L i = true) (h : lv_has ls' nL ((i, x_v ad v) :: (x_lv ad L).filter (fun q => !(q.1 == i) && (!(q.1 == i + 1) && !(q.1 + 1 == i && q.2.category == 2))))) : x_L ad nL ((L.set (i + 1) none).set i (some v)) ls' := by
  refine ⟨h.1, h.2.1, fun j w hj => ?_⟩
  by_cases hji : j = i
  · subst hji
    rw [List.getElem?_set_self (by
      have h1 := (List.getElem?_eq_some_iff.mp hj).1
      simpa using h1)] at hj
    cases hj
    exact h.2.2 (j, x_v ad v) (List.mem_cons_self)
  · rw [List.getElem?_set_ne (fun e => hji e.symm)] at hj
    by_cases hj2 : j = i + 1
    · subst hj2
      rw [List.getElem?_set_self (by
        have h1 := (List.getElem?_eq_some_iff.mp hj).1
        simpa using h1)] at hj
      cases hj
    rw [List.getElem?_set_ne (fun e => hj2 e.symm)] at hj
    refine h.2.2 (j, x_v ad w) (List.mem_cons_of_mem _ (List.mem_filter.mpr ⟨x_lv_mem.mpr ⟨w, hj, rfl⟩, ?_⟩))
    simp only [Bool.and_eq_true, Bool.not_eq_true', beq_eq_false_iff_ne, ne_eq, Bool.and_eq_false_iff, x_v_cat]
    refine ⟨hji, hj2, ?_⟩
    by_cases h1 : j + 1 = i
    · right
      subst h1
      simp only [x_nl, hj, beq_iff_eq] at hn
      rw [hn]; decide
    · left; exact h1
/-- fewer locals are known -/
def x_le : List (Option Value) → List (Option Value) → Prop
  | [], _ => True
  | _ :: _, [] => False
  | none :: a, _ :: b => x_le a b
  | some v :: a, w :: b => w = some v ∧ x_le a b
theorem x_le_at : ∀ {a b : List (Option Value)}, x_le a b → ∀ (i : Nat) (v : Value), a[i]? = some (some v) → b[i]? = some (some v)
  | [], _, _, i, v, h => by simp at h
  | _ :: _, [], hl, _, _, _ => by simp [x_le] at hl
  | none :: a, _ :: b, hl, 0, v, h => by simp at h
  | none :: a, _ :: b, hl, i + 1, v, h => by
    simp only [List.getElem?_cons_succ] at h ⊢
    exact x_le_at (a := a) (b := b) hl i v h
  | some u :: a, w :: b, hl, 0, v, h => by
    obtain ⟨rfl, _⟩ := hl
    simpa using h
  | some u :: a, w :: b, hl, i + 1, v, h => by
    simp only [List.getElem?_cons_succ] at h ⊢
    exact x_le_at hl.2 i v h
theorem x_L.le {ad : Nat → Nat} {nL : Nat} {a b : List (Option Value)} {ls : Array Slot} (h : x_L ad nL b ls) (hl : x_le a b) : x_L ad nL a ls := ⟨h.1, h.2.1, fun i v hi => h.2.2 i v (x_le_at hl i v hi)⟩
/-- the locals at a method's entry -/
def x_ent (av : List Value) : List (Option Value) := av.flatMap fun v => if v.category = 2 then [some v, none] else [some v]
theorem x_ent_args (ad : Nat → Nat) : ∀ (av : List Value) (n i : Nat) (v : Value), (x_ent av)[i]? = some (some v) → (n + i, x_v ad v) ∈ lv_args n (av.map (x_v ad))
  | [], _, i, v, h => by simp [x_ent] at h
  | w :: av, n, i, v, h => by
    simp only [List.map_cons, lv_args, x_v_cat]
    by_cases hc : w.category = 2
    · rw [if_pos hc]
      have e : x_ent (w :: av) = some w :: none :: x_ent av := by simp [x_ent, hc]
      rw [e] at h
      match i, h with
      | 0, h => simp at h; subst h; simp
      | 1, h => simp at h
      | i + 2, h =>
        simp only [List.getElem?_cons_succ] at h
        refine List.mem_cons_of_mem _ ?_
        have h2 := x_ent_args ad av (n + 2) i v h
        rwa [show n + (i + 2) = n + 2 + i by omega]
    · rw [if_neg hc]
      have e : x_ent (w :: av) = some w :: x_ent av := by simp [x_ent, hc]
      rw [e] at h
      match i, h with
      | 0, h => simp at h; subst h; simp
      | i + 1, h =>
        simp only [List.getElem?_cons_succ] at h
        refine List.mem_cons_of_mem _ ?_
        have h2 := x_ent_args ad av (n + 1) i v h
        rwa [show n + (i + 1) = n + 1 + i by omega]
/-! ===== what stands of the String constants (only where b) ===== -/
def x_E (b : Bool) (ad : Nat → Nat) (A : Nat → Prop) (U : State) (H : Heap) : Prop := b = true → (∀ k : Nat, k < 6 → vk_R RX4 ([52, 54, 56, 58, 60, 62].getD k 0) (["pack", "best", "clear", "cut ?", "whole ?", "turn #"].getD k "") (ad (100 + k)) U) ∧
  (∃ adV : Nat → Nat, vk_S 6 [4, 4, 5, 5, 7, 6] [[112, 97, 99, 107], [98, 101, 115, 116], [99, 108, 101, 97, 114], [99, 117, 116, 32, 63], [119, 104, 111, 108, 101, 32, 63], [116, 117, 114, 110, 32, 35]] (fun k => ad (100 + k)) adV A U H) ∧
  va_Z "java/lang/String" "COMPACT_STRINGS" "Z" (.int 1) A U H ∧ va_Zq "jdk/internal/util/Preconditions" "SIOOBE_FORMATTER" "Ljava/util/function/BiFunction;" A U H ∧
  va_Nw (.methodLinkNest RX3 55 yX6_lowest "ChannelTracks") U ∧ va_Nw (.methodLinkNest RX3 58 yX6_highest "ChannelTracks") U
