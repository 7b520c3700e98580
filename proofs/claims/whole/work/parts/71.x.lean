/-! ===== the picture of a shape, row by row ===== -/
def x_ff (ad : Nat → Nat) (σ : xSt) (i : Nat) : Nat → List (Option Nat × Bool) → List Value
  | _, [] => []
  | k, f :: fs => x_fv ad σ i k f :: x_ff ad σ i (k + 1) fs
def x_wf (ad : Nat → Nat) (cI : ClassId) (σ : xSt) : Nat → xSh → va_W
  | _, [] => []
  | i, .inl n :: cs => (ad i, .inl (cI, n, .inl (σ.1 i))) :: x_wf ad cI σ (i + 1) cs
  | i, .inr o :: cs => (ad i, .inr (o.1, x_ff ad σ i 0 o.2)) :: x_wf ad cI σ (i + 1) cs
theorem x_ff_eq (ad : Nat → Nat) (σ : xSt) (i : Nat) (fs : List (Option Nat × Bool)) : ∀ k, fs.mapIdx (fun j f => x_fv ad σ i (k + j) f) = x_ff ad σ i k fs := by
  induction fs with
  | nil => intro k; rfl
  | cons f fs ih =>
    intro k
    rw [List.mapIdx_cons, x_ff, ← ih (k + 1)]
    have e : (fun (j : Nat) (f : Option Nat × Bool) => x_fv ad σ i (k + (j + 1)) f) = (fun j f => x_fv ad σ i (k + 1 + j) f) := by
      funext j f
      rw [show k + (j + 1) = k + 1 + j by omega]
    rw [e]
    rfl
theorem x_wf_eq (ad : Nat → Nat) (cI : ClassId) (σ : xSt) (sh : xSh) : ∀ i, sh.mapIdx (fun j c => (ad (i + j), x_ce ad cI σ (i + j) c)) = x_wf ad cI σ i sh := by
  induction sh with
  | nil => intro i; rfl
  | cons c cs ih =>
    intro i
    have e : (fun (j : Nat) (c : xCl) => (ad (i + (j + 1)), x_ce ad cI σ (i + (j + 1)) c)) = (fun j c => (ad (i + 1 + j), x_ce ad cI σ (i + 1 + j) c)) := by
      funext j c
      rw [show i + (j + 1) = i + 1 + j by omega]
    rw [List.mapIdx_cons, e, ih (i + 1)]
    cases c with
    | inl n => rfl
    | inr o =>
      have e2 := x_ff_eq ad σ i o.2 0
      simp only [Nat.zero_add] at e2
      show (ad i, Sum.inr (o.1, o.2.mapIdx (fun k f => x_fv ad σ i k f))) :: _ = (ad i, Sum.inr (o.1, x_ff ad σ i 0 o.2)) :: _
      rw [e2]
theorem x_w_eq (ad : Nat → Nat) (cI : ClassId) (σ : xSt) (sh : xSh) : x_w ad cI sh σ = x_wf ad cI σ 0 sh := by
  have e := x_wf_eq ad cI σ sh 0
  simp only [Nat.zero_add] at e
  exact e
theorem x_wf_app (ad : Nat → Nat) (cI : ClassId) (σ : xSt) (s2 : xSh) : ∀ (s1 : xSh) (i : Nat), x_wf ad cI σ i (s1 ++ s2) = x_wf ad cI σ i s1 ++ x_wf ad cI σ (i + s1.length) s2
  | [], i => rfl
  | .inl n :: s1, i => by
    show (ad i, _) :: x_wf ad cI σ (i + 1) (s1 ++ s2) = (ad i, _) :: (x_wf ad cI σ (i + 1) s1 ++ x_wf ad cI σ (i + (s1.length + 1)) s2)
    rw [x_wf_app ad cI σ s2 s1 (i + 1), show i + 1 + s1.length = i + (s1.length + 1) by omega]
  | .inr o :: s1, i => by
    show (ad i, _) :: x_wf ad cI σ (i + 1) (s1 ++ s2) = (ad i, _) :: (x_wf ad cI σ (i + 1) s1 ++ x_wf ad cI σ (i + (s1.length + 1)) s2)
    rw [x_wf_app ad cI σ s2 s1 (i + 1), show i + 1 + s1.length = i + (s1.length + 1) by omega]
