/-! ===== the law, from its entry ===== -/
theorem K_start {args : Array Value} {s : State} (hts : ∀ w ∈ xT, w.before args s = true) : ∃ (D : va_G) (cI : ClassId), va_K D CL [(cI, .int)] s := by
  have g : ∀ (own : String) (i1 ci N : Nat) (fs0 : List Value), k_C own i1 ci N fs0 → ∃ z : ClassId × (Nat → Nat), ∀ q : vw_C, CL[ci]? = some q → u_Kn s q.1 q.2.1 q.2.2 z.1 z.2 := by
    rintro own i1 ci N fs0 ⟨C, T, ty, k1, k2, k3, k4, k5, k6, k7⟩
    obtain ⟨cC, iS, h⟩ := u_known (C := C) (T := T) (N := N) (n := N) hts k2 (hts _ k6)
    refine ⟨(cC, iS), fun q hq => ?_⟩
    have e : q = (C, T, N) := Option.some.inj (hq.symm.trans k1)
    subst e
    exact h
  have h : ∀ k : Nat, ∃ z : ClassId × (Nat → Nat), ∀ q : vw_C, CL[k]? = some q → u_Kn s q.1 q.2.1 q.2.2 z.1 z.2 := by
    intro k
    match k with
    | 0 => exact g _ _ _ _ _ kk_X0
    | 1 => exact g _ _ _ _ _ kk_X1
    | 2 => exact g _ _ _ _ _ kk_X2
    | 3 => exact g _ _ _ _ _ kk_X3
    | 4 => exact g _ _ _ _ _ kk_X4
    | 5 => exact g _ _ _ _ _ kk_X5
    | 6 => exact g _ _ _ _ _ kk_X6
    | 7 => exact g _ _ _ _ _ kk_X7
    | k + 8 =>
      obtain ⟨z0, _⟩ := g _ _ _ _ _ kk_X0
      exact ⟨z0, fun q hq => by simp [CL] at hq⟩
  obtain ⟨f, hf⟩ := Classical.axiomOfChoice h
  obtain ⟨cI, kA, comp, h1, h2, h3⟩ := Cond.arrayClass_spec (args := args) (first := s) (o := none) (s := s) (idx := []) (hts _ ko_3)
  refine ⟨(fun k => (f k).1, fun k => (f k).2), cI, fun c q hq => hf c q hq, fun k q hk => ?_⟩
  match k, hk with
  | 0, hk =>
    cases hk
    exact ⟨fun n z => ⟨fun k h => (by cases h), kA, h2, comp, h3⟩, h1⟩
  | k + 1, hk => simp at hk
theorem xD_st {A : Nat → Prop} {a b : Nat → Nat} {cI : ClassId} {s1 s2 : xSh} {σ τ : xSt} (σ' τ' : xSt) (h : va_D A (x_w a cI s1 σ ++ x_w b cI s2 τ)) : va_D A (x_w a cI s1 σ' ++ x_w b cI s2 τ') ∧ va_D A (x_w b cI s2 τ' ++ x_w a cI s1 σ') := by
  have ne : ∀ (i j : Nat) (p q : Nat × va_E), (x_w a cI s1 σ')[i]? = some p → (x_w b cI s2 τ')[j]? = some q → p.1 ≠ q.1 := by
    intro i j p q hp hq
    obtain ⟨c, h1, rfl⟩ := x_w_inv hp
    obtain ⟨d, h2, rfl⟩ := x_w_inv hq
    exact xD_ne h i j (a i, x_ce a cI σ i c) (b j, x_ce b cI τ j d) (x_w_at h1) (x_w_at h2)
  exact ⟨va_D.app (x_D (xD_l h)) (x_D (xD_r h)) ne, va_D.app (x_D (xD_r h)) (x_D (xD_l h)) (fun i j p q hp hq e => ne j i q p hq hp e.symm)⟩
theorem ac_C (a1 aK : Nat → Nat) (cI : ClassId) (σ : xSt) : x_w (fun i => if i < 100 then a1 i else aK (i - 100)) cI shC σ = x_w a1 cI shC σ := by
  rw [x_w_eq, x_w_eq]
  rfl
