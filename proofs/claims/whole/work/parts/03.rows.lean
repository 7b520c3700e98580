/-! ===== moves of what stands of the Strings ===== -/
theorem x_E.go {b : Bool} {ad : Nat → Nat} {A B : Nat → Prop} {s U : State} {H : Heap} (h : x_E b ad A s s.heap) (hW : s.WarmedH U.vm) (hq : ∀ a : Nat, a < s.heap.size → ¬ A a → H[a]? = s.heap[a]?) (hAB : ∀ q, B q → A q) : x_E b ad B U H := by
  intro hb
  obtain ⟨h1, ⟨adV, h2⟩, h3, h4, h5, h6⟩ := h hb
  exact ⟨fun k hk => vk_R.warm hW (h1 k hk), ⟨adV, ((h2.kept hq).moved hW.alike).narrow hAB⟩, ((h3.kept hq).moved hW.alike).narrow hAB, ((h4.kept hq).moved hW.alike).narrow hAB, va_Nw.warmM hW h5, va_Nw.warmM hW h6⟩
theorem x_E.calling {b : Bool} {ad : Nat → Nat} {A : Nat → Prop} {U : State} {g : JFrame} {mk : MethodId} {a : Array Value} {H : Heap} (h : x_E b ad A U H) : x_E b ad A (U.calling g mk a) H := by
  intro hb
  obtain ⟨h1, ⟨adV, h2⟩, h3, h4, h5, h6⟩ := h hb
  exact ⟨fun k hk => vk_R.same (u := U) rfl (h1 k hk), ⟨adV, vk_S.moved (u := U) (Vm.Alike.refl U.vm) h2⟩, va_Z.moved (u := U) (Vm.Alike.refl U.vm) h3, va_Zq.moved (u := U) (Vm.Alike.refl U.vm) h4, va_Nw.same rfl (u := U) rfl h5, va_Nw.same rfl (u := U) rfl h6⟩
/-! ===== the judgement ===== -/
abbrev xM : Type := String × ByteArray × Nat × Option FieldType
def x_rm (h : Nat) : Room := { frames := h, cells := 0, slots := 0, locals := 64 * h }
def x_C (M : xM) (p : Program) (s : State) (m : MethodId) (args : Array Value) (meth : Method) (c : Code) : Prop :=
  p.tables.exec = Jvm.exec ∧ c.code = M.2.1 ∧ meth.sig.returnType = M.2.2.2 ∧ c.maxLocals = M.2.2.1 ∧ s.vm.findClass M.1 = some m.cls ∧ meth.locks = false ∧ ∀ w ∈ xT, w.before args s = true
def x_Q (D : va_G) (ad : Nat → Nat) (cI : ClassId) (sh : xSh) (A : Nat → Prop) (rv : Option Value) (σ' : xSt) : Array Value → State → Outcome → State → Prop := fun _ st oc t =>
  oc = .returned (rv.map (x_v ad)) ∧ va_P D CL (x_w ad cI sh σ') t.heap ∧ va_K D CL [(cI, .int)] t ∧ va_F A st t
def XP {ρ : Type} (κ : ρ → Option Value) (b : Bool) (M : xM) (h : Nat) (sh : xSh) (pc : Nat) (L : List (Option Value)) (S : List Value) (σ : xSt) (o : Option (ρ × xSt)) : Prop :=
  ∀ (r : ρ) (σ' : xSt), o = some (r, σ') →
  ∀ (p : Program) (l : Launch) (e : Env) (s : State) (m : MethodId) (args : Array Value) (below : List Frame) (meth : Method) (c : Code) (D : va_G) (ad : Nat → Nat) (cI : ClassId) (A : Nat → Prop),
    x_C M p s m args meth c → va_K D CL [(cI, .int)] s → va_D A (x_w ad cI sh σ) → (∀ q, s.heap.size ≤ q → A q) → x_E b ad A s s.heap →
    ∀ (H : Heap) (locs : List Loc) (ls : Array Slot), va_P D CL (x_w ad cI sh σ) H → va_S A s.heap H locs → x_L ad M.2.2.1 L ls →
      W p l e (x_rm h) s m args below meth c H locs 0 0 (MQ below (x_Q D ad cI sh A (κ r) σ') args s 0 0 A) (F0 m pc ls (S.map (x_v ad)))
abbrev κi (r : Int32) : Option Value := some (.int r)
abbrev κl (r : Int64) : Option Value := some (.long r)
abbrev κv (_ : Unit) : Option Value := none
abbrev κa (r : Nat) : Option Value := some (.ref r)
/-! the pure words -/
def bnd {ρ α : Type} (o : Option (ρ × xSt)) (k : ρ → xSt → Option α) : Option α := match o with
  | none => none
  | some q => k q.1 q.2
def gi {α : Type} (i : Int32) (n : Nat) (o : Option α) : Option α := if i < 0 ∨ n ≤ i.toNatClampNeg then none else o
def gz {α : Type} (y : Int32) (o : Option α) : Option α := if y = 0 then none else o
def gb {α : Type} (v : Int32) (o : Option α) : Option α := if v = 0 ∨ v = 1 then o else none
def jn {α β : Type} (k : α) (R : α → β) : β := R k
section XR
variable {ρ : Type} {κ : ρ → Option Value} {b : Bool} {M : xM} {h : Nat} {sh : xSh} {pc : Nat} {L : List (Option Value)} {S : List Value} {σ : xSt} {o o1 o2 : Option (ρ × xSt)}
theorem x_none : XP κ b M h sh pc L S σ none := by
  intro r σ' ho
  cases ho
theorem x_sub {L' : List (Option Value)} (hl : x_le L' L) (k : XP κ b M h sh pc L' S σ o) : XP κ b M h sh pc L S σ o := by
  intro r σ' ho p l e s m args below meth c D ad cI A hC hK hD hA hE H locs ls hP hS hL
  exact k r σ' ho p l e s m args below meth c D ad cI A hC hK hD hA hE H locs ls hP hS (hL.le hl)
theorem x_ite {c : Prop} [Decidable c] (k1 : c → XP κ b M h sh pc L S σ o1) (k2 : ¬ c → XP κ b M h sh pc L S σ o2) : XP κ b M h sh pc L S σ (if c then o1 else o2) := by
  by_cases hc : c
  · rw [if_pos hc]; exact k1 hc
  · rw [if_neg hc]; exact k2 hc
theorem x_jn {α : Type} {k : α → xSt → Option (ρ × xSt)} {R : (α → xSt → Option (ρ × xSt)) → Option (ρ × xSt)} (pcJ : Nat) (LJ : α → List (Option Value)) (SJ : α → List Value)
    (hJ : ∀ (v : α) (σ' : xSt), XP κ b M h sh pcJ (LJ v) (SJ v) σ' (k v σ')) (hR : ∀ k' : α → xSt → Option (ρ × xSt), (∀ (v : α) (σ' : xSt), XP κ b M h sh pcJ (LJ v) (SJ v) σ' (k' v σ')) → XP κ b M h sh pc L S σ (R k')) : XP κ b M h sh pc L S σ (jn k R) := hR k hJ
theorem x_bj {α : Type} {k : α → xSt → Option (ρ × xSt)} {R : Option (α × xSt)} (pcJ : Nat) (LJ : α → List (Option Value)) (SJ : α → List Value)
    (hJ : ∀ (v : α) (σ' : xSt), XP κ b M h sh pcJ (LJ v) (SJ v) σ' (k v σ')) (hR : ∀ k' : α → xSt → Option (ρ × xSt), (∀ (v : α) (σ' : xSt), XP κ b M h sh pcJ (LJ v) (SJ v) σ' (k' v σ')) → XP κ b M h sh pc L S σ (bnd R k')) : XP κ b M h sh pc L S σ (bnd R k) := hR k hJ
/-! plain instructions -/
theorem x_iconst {n : Int} {v : Int32} (hd : decode M.2.1 pc = .ok (.iconst n, 1)) (hv : Int32.ofInt n = v) (k : XP κ b M h sh (pc + 1) L (.int v :: S) σ o) : XP κ b M h sh pc L S σ o := by
  intro r σ' ho p l e s m args below meth c D ad cI A hC hK hD hA hE H locs ls hP hS hL
  exact lv_iconst hC.1 hC.2.1 hd hv (k r σ' ho p l e s m args below meth c D ad cI A hC hK hD hA hE H locs ls hP hS hL)
theorem x_bipush {n : Int} {v : Int32} (hd : decode M.2.1 pc = .ok (.bipush n, 2)) (hv : (Int8.ofInt n).toInt32 = v) (k : XP κ b M h sh (pc + 2) L (.int v :: S) σ o) : XP κ b M h sh pc L S σ o := by
  intro r σ' ho p l e s m args below meth c D ad cI A hC hK hD hA hE H locs ls hP hS hL
  exact lv_bipush hC.1 hC.2.1 hd hv (k r σ' ho p l e s m args below meth c D ad cI A hC hK hD hA hE H locs ls hP hS hL)
theorem x_sipush {n : Int} {v : Int32} (hd : decode M.2.1 pc = .ok (.sipush n, 3)) (hv : (Int16.ofInt n).toInt32 = v) (k : XP κ b M h sh (pc + 3) L (.int v :: S) σ o) : XP κ b M h sh pc L S σ o := by
  intro r σ' ho p l e s m args below meth c D ad cI A hC hK hD hA hE H locs ls hP hS hL
  exact lv_sipush hC.1 hC.2.1 hd hv (k r σ' ho p l e s m args below meth c D ad cI A hC hK hD hA hE H locs ls hP hS hL)
theorem x_ldc {index : Nat} {v : Int32} (hd : decode M.2.1 pc = .ok (.ldc index, 2)) (hw : Cond.constant M.1 index v ∈ xT) (k : XP κ b M h sh (pc + 2) L (.int v :: S) σ o) : XP κ b M h sh pc L S σ o := by
  intro r σ' ho p l e s m args below meth c D ad cI A hC hK hD hA hE H locs ls hP hS hL
  exact lv_ldc hC.1 hC.2.1 hC.2.2.2.2.1 (hC.2.2.2.2.2.2 _ hw) hd (k r σ' ho p l e s m args below meth c D ad cI A hC hK hD hA hE H locs ls hP hS hL)
theorem x_ldcw {index : Nat} {v : Int32} (hd : decode M.2.1 pc = .ok (.ldc_w index, 3)) (hw : Cond.constant M.1 index v ∈ xT) (k : XP κ b M h sh (pc + 3) L (.int v :: S) σ o) : XP κ b M h sh pc L S σ o := by
  intro r σ' ho p l e s m args below meth c D ad cI A hC hK hD hA hE H locs ls hP hS hL
  exact lv_ldcw hC.1 hC.2.1 hC.2.2.2.2.1 (hC.2.2.2.2.2.2 _ hw) hd (k r σ' ho p l e s m args below meth c D ad cI A hC hK hD hA hE H locs ls hP hS hL)
theorem x_ldc2 {index : Nat} {v : Int64} (hd : decode M.2.1 pc = .ok (.ldc2_w index, 3)) (hw : Cond.constantLong M.1 index v ∈ xT) (k : XP κ b M h sh (pc + 3) L (.long v :: S) σ o) : XP κ b M h sh pc L S σ o := by
  intro r σ' ho p l e s m args below meth c D ad cI A hC hK hD hA hE H locs ls hP hS hL
  exact lv_ldc2 hC.1 hC.2.1 hC.2.2.2.2.1 (hC.2.2.2.2.2.2 _ hw) hd (k r σ' ho p l e s m args below meth c D ad cI A hC hK hD hA hE H locs ls hP hS hL)
theorem x_iload_n {n : Fin 4} {i : Nat} {x : Int32} (hd : decode M.2.1 pc = .ok (.iload_n n, 1)) (hi : (n : Nat) = i) (hl : L[i]? = some (some (.int x))) (k : XP κ b M h sh (pc + 1) L (.int x :: S) σ o) : XP κ b M h sh pc L S σ o := by
  intro r σ' ho p l e s m args below meth c D ad cI A hC hK hD hA hE H locs ls hP hS hL
  exact lv_iload_n hC.1 hC.2.1 hd hi (hL.2.2 _ _ hl) (k r σ' ho p l e s m args below meth c D ad cI A hC hK hD hA hE H locs ls hP hS hL)
theorem x_iload {i : Nat} {x : Int32} (hd : decode M.2.1 pc = .ok (.iload i, 2)) (hl : L[i]? = some (some (.int x))) (k : XP κ b M h sh (pc + 2) L (.int x :: S) σ o) : XP κ b M h sh pc L S σ o := by
  intro r σ' ho p l e s m args below meth c D ad cI A hC hK hD hA hE H locs ls hP hS hL
  exact lv_iload hC.1 hC.2.1 hd (hL.2.2 _ _ hl) (k r σ' ho p l e s m args below meth c D ad cI A hC hK hD hA hE H locs ls hP hS hL)
theorem x_lload_n {n : Fin 4} {i : Nat} {x : Int64} (hd : decode M.2.1 pc = .ok (.lload_n n, 1)) (hi : (n : Nat) = i) (hl : L[i]? = some (some (.long x))) (k : XP κ b M h sh (pc + 1) L (.long x :: S) σ o) : XP κ b M h sh pc L S σ o := by
  intro r σ' ho p l e s m args below meth c D ad cI A hC hK hD hA hE H locs ls hP hS hL
  exact lv_lload_n hC.1 hC.2.1 hd hi (hL.2.2 _ _ hl) (k r σ' ho p l e s m args below meth c D ad cI A hC hK hD hA hE H locs ls hP hS hL)
theorem x_lload {i : Nat} {x : Int64} (hd : decode M.2.1 pc = .ok (.lload i, 2)) (hl : L[i]? = some (some (.long x))) (k : XP κ b M h sh (pc + 2) L (.long x :: S) σ o) : XP κ b M h sh pc L S σ o := by
  intro r σ' ho p l e s m args below meth c D ad cI A hC hK hD hA hE H locs ls hP hS hL
  exact lv_lload hC.1 hC.2.1 hd (hL.2.2 _ _ hl) (k r σ' ho p l e s m args below meth c D ad cI A hC hK hD hA hE H locs ls hP hS hL)
theorem x_aload_n {n : Fin 4} {i : Nat} {x : Nat} (hd : decode M.2.1 pc = .ok (.aload_n n, 1)) (hi : (n : Nat) = i) (hl : L[i]? = some (some (.ref x))) (k : XP κ b M h sh (pc + 1) L (.ref x :: S) σ o) : XP κ b M h sh pc L S σ o := by
  intro r σ' ho p l e s m args below meth c D ad cI A hC hK hD hA hE H locs ls hP hS hL
  exact lv_aload_n hC.1 hC.2.1 hd hi (hL.2.2 _ _ hl) (k r σ' ho p l e s m args below meth c D ad cI A hC hK hD hA hE H locs ls hP hS hL)
theorem x_aload {i : Nat} {x : Nat} (hd : decode M.2.1 pc = .ok (.aload i, 2)) (hl : L[i]? = some (some (.ref x))) (k : XP κ b M h sh (pc + 2) L (.ref x :: S) σ o) : XP κ b M h sh pc L S σ o := by
  intro r σ' ho p l e s m args below meth c D ad cI A hC hK hD hA hE H locs ls hP hS hL
  exact lv_aload hC.1 hC.2.1 hd (hL.2.2 _ _ hl) (k r σ' ho p l e s m args below meth c D ad cI A hC hK hD hA hE H locs ls hP hS hL)
theorem x_istore_n {n : Fin 4} {i : Nat} {x : Int32} (hd : decode M.2.1 pc = .ok (.istore_n n, 1)) (hi : (n : Nat) = i) (hn : Nat.ble (i + 1) M.2.2.1 = true) (hq : x_nl L i = true) (k : XP κ b M h sh (pc + 1) (L.set i (some (.int x))) S σ o) : XP κ b M h sh pc L (.int x :: S) σ o := by
  intro r σ' ho p l e s m args below meth c D ad cI A hC hK hD hA hE H locs ls hP hS hL
  exact lv_istore_n hC.1 hC.2.1 hd hi hL.has (Nat.le_of_ble_eq_true hn) rfl (fun ls' hl => k r σ' ho p l e s m args below meth c D ad cI A hC hK hD hA hE H locs ls' hP hS (x_L.st1 (v := .int x) hq hl))
theorem x_istore {i : Nat} {x : Int32} (hd : decode M.2.1 pc = .ok (.istore i, 2)) (hn : Nat.ble (i + 1) M.2.2.1 = true) (hq : x_nl L i = true) (k : XP κ b M h sh (pc + 2) (L.set i (some (.int x))) S σ o) : XP κ b M h sh pc L (.int x :: S) σ o := by
  intro r σ' ho p l e s m args below meth c D ad cI A hC hK hD hA hE H locs ls hP hS hL
  exact lv_istore hC.1 hC.2.1 hd hL.has (Nat.le_of_ble_eq_true hn) rfl (fun ls' hl => k r σ' ho p l e s m args below meth c D ad cI A hC hK hD hA hE H locs ls' hP hS (x_L.st1 (v := .int x) hq hl))
theorem x_astore_n {n : Fin 4} {i : Nat} {x : Nat} (hd : decode M.2.1 pc = .ok (.astore_n n, 1)) (hi : (n : Nat) = i) (hn : Nat.ble (i + 1) M.2.2.1 = true) (hq : x_nl L i = true) (k : XP κ b M h sh (pc + 1) (L.set i (some (.ref x))) S σ o) : XP κ b M h sh pc L (.ref x :: S) σ o := by
  intro r σ' ho p l e s m args below meth c D ad cI A hC hK hD hA hE H locs ls hP hS hL
  exact lv_astore_n hC.1 hC.2.1 hd hi hL.has (Nat.le_of_ble_eq_true hn) rfl (fun ls' hl => k r σ' ho p l e s m args below meth c D ad cI A hC hK hD hA hE H locs ls' hP hS (x_L.st1 (v := .ref x) hq hl))
theorem x_astore {i : Nat} {x : Nat} (hd : decode M.2.1 pc = .ok (.astore i, 2)) (hn : Nat.ble (i + 1) M.2.2.1 = true) (hq : x_nl L i = true) (k : XP κ b M h sh (pc + 2) (L.set i (some (.ref x))) S σ o) : XP κ b M h sh pc L (.ref x :: S) σ o := by
  intro r σ' ho p l e s m args below meth c D ad cI A hC hK hD hA hE H locs ls hP hS hL
  exact lv_astore hC.1 hC.2.1 hd hL.has (Nat.le_of_ble_eq_true hn) rfl (fun ls' hl => k r σ' ho p l e s m args below meth c D ad cI A hC hK hD hA hE H locs ls' hP hS (x_L.st1 (v := .ref x) hq hl))
theorem x_lstore_n {n : Fin 4} {i : Nat} {x : Int64} (hd : decode M.2.1 pc = .ok (.lstore_n n, 1)) (hi : (n : Nat) = i) (hn : Nat.ble (i + 1 + 1) M.2.2.1 = true) (hq : x_nl L i = true) (k : XP κ b M h sh (pc + 1) ((L.set (i + 1) none).set i (some (.long x))) S σ o) : XP κ b M h sh pc L (.long x :: S) σ o := by
  intro r σ' ho p l e s m args below meth c D ad cI A hC hK hD hA hE H locs ls hP hS hL
  exact lv_lstore_n hC.1 hC.2.1 hd hi hL.has (Nat.le_of_ble_eq_true hn) rfl (fun ls' hl => k r σ' ho p l e s m args below meth c D ad cI A hC hK hD hA hE H locs ls' hP hS (x_L.st2 (v := .long x) hq hl))
theorem x_lstore {i : Nat} {x : Int64} (hd : decode M.2.1 pc = .ok (.lstore i, 2)) (hn : Nat.ble (i + 1 + 1) M.2.2.1 = true) (hq : x_nl L i = true) (k : XP κ b M h sh (pc + 2) ((L.set (i + 1) none).set i (some (.long x))) S σ o) : XP κ b M h sh pc L (.long x :: S) σ o := by
  intro r σ' ho p l e s m args below meth c D ad cI A hC hK hD hA hE H locs ls hP hS hL
  exact lv_lstore hC.1 hC.2.1 hd hL.has (Nat.le_of_ble_eq_true hn) rfl (fun ls' hl => k r σ' ho p l e s m args below meth c D ad cI A hC hK hD hA hE H locs ls' hP hS (x_L.st2 (v := .long x) hq hl))
theorem x_iinc {i : Nat} {n : Int} {x v : Int32} (hd : decode M.2.1 pc = .ok (.iinc i n, 3)) (hl : L[i]? = some (some (.int x))) (hv : x + Int32.ofInt n = v) (hn : Nat.ble (i + 1) M.2.2.1 = true) (hq : x_nl L i = true) (k : XP κ b M h sh (pc + 3) (L.set i (some (.int v))) S σ o) : XP κ b M h sh pc L S σ o := by
  intro r σ' ho p l e s m args below meth c D ad cI A hC hK hD hA hE H locs ls hP hS hL
  obtain ⟨j, hj⟩ := List.mem_iff_getElem?.mp (x_lv_mem (ad := ad) (q := (i, .int x)).mpr ⟨_, hl, rfl⟩)
  exact lv_iinc hC.1 hC.2.1 hd hL.has hj hv (Nat.le_of_ble_eq_true hn) rfl (fun ls' hl => k r σ' ho p l e s m args below meth c D ad cI A hC hK hD hA hE H locs ls' hP hS (x_L.st1 (v := .int v) hq hl))
theorem x_iadd {x y : Int32} (hd : decode M.2.1 pc = .ok (.iadd, 1)) (k : XP κ b M h sh (pc + 1) L (.int (x + y) :: S) σ o) : XP κ b M h sh pc L (.int y :: .int x :: S) σ o := by
  intro r σ' ho p l e s m args below meth c D ad cI A hC hK hD hA hE H locs ls hP hS hL
  exact lv_iadd hC.1 hC.2.1 hd (k r σ' ho p l e s m args below meth c D ad cI A hC hK hD hA hE H locs ls hP hS hL)
theorem x_isub {x y : Int32} (hd : decode M.2.1 pc = .ok (.isub, 1)) (k : XP κ b M h sh (pc + 1) L (.int (x - y) :: S) σ o) : XP κ b M h sh pc L (.int y :: .int x :: S) σ o := by
  intro r σ' ho p l e s m args below meth c D ad cI A hC hK hD hA hE H locs ls hP hS hL
  exact lv_isub hC.1 hC.2.1 hd (k r σ' ho p l e s m args below meth c D ad cI A hC hK hD hA hE H locs ls hP hS hL)
theorem x_imul {x y : Int32} (hd : decode M.2.1 pc = .ok (.imul, 1)) (k : XP κ b M h sh (pc + 1) L (.int (x * y) :: S) σ o) : XP κ b M h sh pc L (.int y :: .int x :: S) σ o := by
  intro r σ' ho p l e s m args below meth c D ad cI A hC hK hD hA hE H locs ls hP hS hL
  exact lv_imul hC.1 hC.2.1 hd (k r σ' ho p l e s m args below meth c D ad cI A hC hK hD hA hE H locs ls hP hS hL)
theorem x_iand {x y : Int32} (hd : decode M.2.1 pc = .ok (.iand, 1)) (k : XP κ b M h sh (pc + 1) L (.int (x &&& y) :: S) σ o) : XP κ b M h sh pc L (.int y :: .int x :: S) σ o := by
  intro r σ' ho p l e s m args below meth c D ad cI A hC hK hD hA hE H locs ls hP hS hL
  exact lv_iand hC.1 hC.2.1 hd (k r σ' ho p l e s m args below meth c D ad cI A hC hK hD hA hE H locs ls hP hS hL)
theorem x_ior {x y : Int32} (hd : decode M.2.1 pc = .ok (.ior, 1)) (k : XP κ b M h sh (pc + 1) L (.int (x ||| y) :: S) σ o) : XP κ b M h sh pc L (.int y :: .int x :: S) σ o := by
  intro r σ' ho p l e s m args below meth c D ad cI A hC hK hD hA hE H locs ls hP hS hL
  exact lv_ior hC.1 hC.2.1 hd (k r σ' ho p l e s m args below meth c D ad cI A hC hK hD hA hE H locs ls hP hS hL)
theorem x_ixor {x y : Int32} (hd : decode M.2.1 pc = .ok (.ixor, 1)) (k : XP κ b M h sh (pc + 1) L (.int (x ^^^ y) :: S) σ o) : XP κ b M h sh pc L (.int y :: .int x :: S) σ o := by
  intro r σ' ho p l e s m args below meth c D ad cI A hC hK hD hA hE H locs ls hP hS hL
  exact lv_ixor hC.1 hC.2.1 hd (k r σ' ho p l e s m args below meth c D ad cI A hC hK hD hA hE H locs ls hP hS hL)
theorem x_ishl {x y : Int32} (hd : decode M.2.1 pc = .ok (.ishl, 1)) (k : XP κ b M h sh (pc + 1) L (.int (x <<< (y &&& 31)) :: S) σ o) : XP κ b M h sh pc L (.int y :: .int x :: S) σ o := by
  intro r σ' ho p l e s m args below meth c D ad cI A hC hK hD hA hE H locs ls hP hS hL
  exact lv_ishl hC.1 hC.2.1 hd (k r σ' ho p l e s m args below meth c D ad cI A hC hK hD hA hE H locs ls hP hS hL)
theorem x_ishr {x y : Int32} (hd : decode M.2.1 pc = .ok (.ishr, 1)) (k : XP κ b M h sh (pc + 1) L (.int (x >>> (y &&& 31)) :: S) σ o) : XP κ b M h sh pc L (.int y :: .int x :: S) σ o := by
  intro r σ' ho p l e s m args below meth c D ad cI A hC hK hD hA hE H locs ls hP hS hL
  exact lv_ishr hC.1 hC.2.1 hd (k r σ' ho p l e s m args below meth c D ad cI A hC hK hD hA hE H locs ls hP hS hL)
theorem x_iushr {x y : Int32} (hd : decode M.2.1 pc = .ok (.iushr, 1)) (k : XP κ b M h sh (pc + 1) L (.int ((x.toUInt32 >>> (y.toUInt32 &&& Int32.toUInt32 31)).toInt32) :: S) σ o) : XP κ b M h sh pc L (.int y :: .int x :: S) σ o := by
  intro r σ' ho p l e s m args below meth c D ad cI A hC hK hD hA hE H locs ls hP hS hL
  exact lv_iushr hC.1 hC.2.1 hd rfl (k r σ' ho p l e s m args below meth c D ad cI A hC hK hD hA hE H locs ls hP hS hL)
theorem x_ladd {x y : Int64} (hd : decode M.2.1 pc = .ok (.ladd, 1)) (k : XP κ b M h sh (pc + 1) L (.long (x + y) :: S) σ o) : XP κ b M h sh pc L (.long y :: .long x :: S) σ o := by
  intro r σ' ho p l e s m args below meth c D ad cI A hC hK hD hA hE H locs ls hP hS hL
  exact lv_ladd hC.1 hC.2.1 hd (k r σ' ho p l e s m args below meth c D ad cI A hC hK hD hA hE H locs ls hP hS hL)
theorem x_lmul {x y : Int64} (hd : decode M.2.1 pc = .ok (.lmul, 1)) (k : XP κ b M h sh (pc + 1) L (.long (x * y) :: S) σ o) : XP κ b M h sh pc L (.long y :: .long x :: S) σ o := by
  intro r σ' ho p l e s m args below meth c D ad cI A hC hK hD hA hE H locs ls hP hS hL
  exact lv_lmul hC.1 hC.2.1 hd (k r σ' ho p l e s m args below meth c D ad cI A hC hK hD hA hE H locs ls hP hS hL)
theorem x_idiv {x y : Int32} (hd : decode M.2.1 pc = .ok (.idiv, 1)) (k : XP κ b M h sh (pc + 1) L (.int (x / y) :: S) σ o) : XP κ b M h sh pc L (.int y :: .int x :: S) σ (gz y o) := by
  by_cases hy : y = 0
  · rw [gz, if_pos hy]; exact x_none
  rw [gz, if_neg hy]
  intro r σ' ho p l e s m args below meth c D ad cI A hC hK hD hA hE H locs ls hP hS hL
  exact lv_idiv hC.1 hC.2.1 hd hy (k r σ' ho p l e s m args below meth c D ad cI A hC hK hD hA hE H locs ls hP hS hL)
theorem x_irem {x y : Int32} (hd : decode M.2.1 pc = .ok (.irem, 1)) (k : XP κ b M h sh (pc + 1) L (.int (x - x / y * y) :: S) σ o) : XP κ b M h sh pc L (.int y :: .int x :: S) σ (gz y o) := by
  by_cases hy : y = 0
  · rw [gz, if_pos hy]; exact x_none
  rw [gz, if_neg hy]
  intro r σ' ho p l e s m args below meth c D ad cI A hC hK hD hA hE H locs ls hP hS hL
  exact lv_irem hC.1 hC.2.1 hd hy (k r σ' ho p l e s m args below meth c D ad cI A hC hK hD hA hE H locs ls hP hS hL)
theorem x_i2l {x : Int32} (hd : decode M.2.1 pc = .ok (.i2l, 1)) (k : XP κ b M h sh (pc + 1) L (.long x.toInt64 :: S) σ o) : XP κ b M h sh pc L (.int x :: S) σ o := by
  intro r σ' ho p l e s m args below meth c D ad cI A hC hK hD hA hE H locs ls hP hS hL
  exact lv_i2l hC.1 hC.2.1 hd rfl (k r σ' ho p l e s m args below meth c D ad cI A hC hK hD hA hE H locs ls hP hS hL)
theorem x_dup {v : Value} (hd : decode M.2.1 pc = .ok (.dup, 1)) (hv : v.category = 1) (k : XP κ b M h sh (pc + 1) L (v :: v :: S) σ o) : XP κ b M h sh pc L (v :: S) σ o := by
  intro r σ' ho p l e s m args below meth c D ad cI A hC hK hD hA hE H locs ls hP hS hL
  exact lv_dup hC.1 hC.2.1 hd ((x_v_cat ad v).trans hv) (k r σ' ho p l e s m args below meth c D ad cI A hC hK hD hA hE H locs ls hP hS hL)
theorem x_pop {v : Value} (hd : decode M.2.1 pc = .ok (.pop, 1)) (hv : v.category = 1) (k : XP κ b M h sh (pc + 1) L S σ o) : XP κ b M h sh pc L (v :: S) σ o := by
  intro r σ' ho p l e s m args below meth c D ad cI A hC hK hD hA hE H locs ls hP hS hL
  exact lv_pop hC.1 hC.2.1 hd ((x_v_cat ad v).trans hv) (k r σ' ho p l e s m args below meth c D ad cI A hC hK hD hA hE H locs ls hP hS hL)
theorem x_dup2 {v w : Value} (hd : decode M.2.1 pc = .ok (.dup2, 1)) (hv : v.category = 1) (hw : w.category = 1) (k : XP κ b M h sh (pc + 1) L (v :: w :: v :: w :: S) σ o) : XP κ b M h sh pc L (v :: w :: S) σ o := by
  intro r σ' ho p l e s m args below meth c D ad cI A hC hK hD hA hE H locs ls hP hS hL
  exact lv_dup2_11 hC.1 hC.2.1 hd ((x_v_cat ad v).trans hv) ((x_v_cat ad w).trans hw) (k r σ' ho p l e s m args below meth c D ad cI A hC hK hD hA hE H locs ls hP hS hL)
theorem x_icmp_eq {x y : Int32} {off : Int} (tgt : Nat) (hd : decode M.2.1 pc = .ok (.if_icmp .eq off, 3)) (ht : (pc : Int) + off = (tgt : Int)) (kt : x = y → XP κ b M h sh tgt L S σ o1) (kf : ¬ x = y → XP κ b M h sh (pc + 3) L S σ o2) : XP κ b M h sh pc L (.int y :: .int x :: S) σ (if x = y then o1 else o2) := by
  intro r σ' ho p l e s m args below meth c D ad cI A hC hK hD hA hE H locs ls hP hS hL
  exact lv_icmp_eq hC.1 hC.2.1 hd ht (fun hc => kt hc r σ' (by rw [if_pos hc] at ho; exact ho) p l e s m args below meth c D ad cI A hC hK hD hA hE H locs ls hP hS hL) (fun hc => kf hc r σ' (by rw [if_neg hc] at ho; exact ho) p l e s m args below meth c D ad cI A hC hK hD hA hE H locs ls hP hS hL)
theorem x_if_eq {x : Int32} {off : Int} (tgt : Nat) (hd : decode M.2.1 pc = .ok (.ifCond .eq off, 3)) (ht : (pc : Int) + off = (tgt : Int)) (kt : x = 0 → XP κ b M h sh tgt L S σ o1) (kf : ¬ x = 0 → XP κ b M h sh (pc + 3) L S σ o2) : XP κ b M h sh pc L (.int x :: S) σ (if x = 0 then o1 else o2) := by
  intro r σ' ho p l e s m args below meth c D ad cI A hC hK hD hA hE H locs ls hP hS hL
  exact lv_if_eq hC.1 hC.2.1 hd ht (fun hc => kt hc r σ' (by rw [if_pos hc] at ho; exact ho) p l e s m args below meth c D ad cI A hC hK hD hA hE H locs ls hP hS hL) (fun hc => kf hc r σ' (by rw [if_neg hc] at ho; exact ho) p l e s m args below meth c D ad cI A hC hK hD hA hE H locs ls hP hS hL)
theorem x_icmp_ne {x y : Int32} {off : Int} (tgt : Nat) (hd : decode M.2.1 pc = .ok (.if_icmp .ne off, 3)) (ht : (pc : Int) + off = (tgt : Int)) (kt : ¬ x = y → XP κ b M h sh tgt L S σ o1) (kf : x = y → XP κ b M h sh (pc + 3) L S σ o2) : XP κ b M h sh pc L (.int y :: .int x :: S) σ (if x = y then o2 else o1) := by
  intro r σ' ho p l e s m args below meth c D ad cI A hC hK hD hA hE H locs ls hP hS hL
  exact lv_icmp_ne hC.1 hC.2.1 hd ht (fun hc => kt hc r σ' (by rw [if_neg hc] at ho; exact ho) p l e s m args below meth c D ad cI A hC hK hD hA hE H locs ls hP hS hL) (fun hc => kf hc r σ' (by rw [if_pos hc] at ho; exact ho) p l e s m args below meth c D ad cI A hC hK hD hA hE H locs ls hP hS hL)
theorem x_if_ne {x : Int32} {off : Int} (tgt : Nat) (hd : decode M.2.1 pc = .ok (.ifCond .ne off, 3)) (ht : (pc : Int) + off = (tgt : Int)) (kt : ¬ x = 0 → XP κ b M h sh tgt L S σ o1) (kf : x = 0 → XP κ b M h sh (pc + 3) L S σ o2) : XP κ b M h sh pc L (.int x :: S) σ (if x = 0 then o2 else o1) := by
  intro r σ' ho p l e s m args below meth c D ad cI A hC hK hD hA hE H locs ls hP hS hL
  exact lv_if_ne hC.1 hC.2.1 hd ht (fun hc => kt hc r σ' (by rw [if_neg hc] at ho; exact ho) p l e s m args below meth c D ad cI A hC hK hD hA hE H locs ls hP hS hL) (fun hc => kf hc r σ' (by rw [if_pos hc] at ho; exact ho) p l e s m args below meth c D ad cI A hC hK hD hA hE H locs ls hP hS hL)
theorem x_icmp_lt {x y : Int32} {off : Int} (tgt : Nat) (hd : decode M.2.1 pc = .ok (.if_icmp .lt off, 3)) (ht : (pc : Int) + off = (tgt : Int)) (kt : x < y → XP κ b M h sh tgt L S σ o1) (kf : ¬ x < y → XP κ b M h sh (pc + 3) L S σ o2) : XP κ b M h sh pc L (.int y :: .int x :: S) σ (if x < y then o1 else o2) := by
  intro r σ' ho p l e s m args below meth c D ad cI A hC hK hD hA hE H locs ls hP hS hL
  exact lv_icmp_lt hC.1 hC.2.1 hd ht (fun hc => kt hc r σ' (by rw [if_pos hc] at ho; exact ho) p l e s m args below meth c D ad cI A hC hK hD hA hE H locs ls hP hS hL) (fun hc => kf hc r σ' (by rw [if_neg hc] at ho; exact ho) p l e s m args below meth c D ad cI A hC hK hD hA hE H locs ls hP hS hL)
theorem x_if_lt {x : Int32} {off : Int} (tgt : Nat) (hd : decode M.2.1 pc = .ok (.ifCond .lt off, 3)) (ht : (pc : Int) + off = (tgt : Int)) (kt : x < 0 → XP κ b M h sh tgt L S σ o1) (kf : ¬ x < 0 → XP κ b M h sh (pc + 3) L S σ o2) : XP κ b M h sh pc L (.int x :: S) σ (if x < 0 then o1 else o2) := by
  intro r σ' ho p l e s m args below meth c D ad cI A hC hK hD hA hE H locs ls hP hS hL
  exact lv_if_lt hC.1 hC.2.1 hd ht (fun hc => kt hc r σ' (by rw [if_pos hc] at ho; exact ho) p l e s m args below meth c D ad cI A hC hK hD hA hE H locs ls hP hS hL) (fun hc => kf hc r σ' (by rw [if_neg hc] at ho; exact ho) p l e s m args below meth c D ad cI A hC hK hD hA hE H locs ls hP hS hL)
theorem x_icmp_ge {x y : Int32} {off : Int} (tgt : Nat) (hd : decode M.2.1 pc = .ok (.if_icmp .ge off, 3)) (ht : (pc : Int) + off = (tgt : Int)) (kt : y ≤ x → XP κ b M h sh tgt L S σ o1) (kf : ¬ y ≤ x → XP κ b M h sh (pc + 3) L S σ o2) : XP κ b M h sh pc L (.int y :: .int x :: S) σ (if y ≤ x then o1 else o2) := by
  intro r σ' ho p l e s m args below meth c D ad cI A hC hK hD hA hE H locs ls hP hS hL
  exact lv_icmp_ge hC.1 hC.2.1 hd ht (fun hc => kt hc r σ' (by rw [if_pos hc] at ho; exact ho) p l e s m args below meth c D ad cI A hC hK hD hA hE H locs ls hP hS hL) (fun hc => kf hc r σ' (by rw [if_neg hc] at ho; exact ho) p l e s m args below meth c D ad cI A hC hK hD hA hE H locs ls hP hS hL)
theorem x_if_ge {x : Int32} {off : Int} (tgt : Nat) (hd : decode M.2.1 pc = .ok (.ifCond .ge off, 3)) (ht : (pc : Int) + off = (tgt : Int)) (kt : 0 ≤ x → XP κ b M h sh tgt L S σ o1) (kf : ¬ 0 ≤ x → XP κ b M h sh (pc + 3) L S σ o2) : XP κ b M h sh pc L (.int x :: S) σ (if 0 ≤ x then o1 else o2) := by
  intro r σ' ho p l e s m args below meth c D ad cI A hC hK hD hA hE H locs ls hP hS hL
  exact lv_if_ge hC.1 hC.2.1 hd ht (fun hc => kt hc r σ' (by rw [if_pos hc] at ho; exact ho) p l e s m args below meth c D ad cI A hC hK hD hA hE H locs ls hP hS hL) (fun hc => kf hc r σ' (by rw [if_neg hc] at ho; exact ho) p l e s m args below meth c D ad cI A hC hK hD hA hE H locs ls hP hS hL)
theorem x_icmp_gt {x y : Int32} {off : Int} (tgt : Nat) (hd : decode M.2.1 pc = .ok (.if_icmp .gt off, 3)) (ht : (pc : Int) + off = (tgt : Int)) (kt : y < x → XP κ b M h sh tgt L S σ o1) (kf : ¬ y < x → XP κ b M h sh (pc + 3) L S σ o2) : XP κ b M h sh pc L (.int y :: .int x :: S) σ (if y < x then o1 else o2) := by
  intro r σ' ho p l e s m args below meth c D ad cI A hC hK hD hA hE H locs ls hP hS hL
  exact lv_icmp_gt hC.1 hC.2.1 hd ht (fun hc => kt hc r σ' (by rw [if_pos hc] at ho; exact ho) p l e s m args below meth c D ad cI A hC hK hD hA hE H locs ls hP hS hL) (fun hc => kf hc r σ' (by rw [if_neg hc] at ho; exact ho) p l e s m args below meth c D ad cI A hC hK hD hA hE H locs ls hP hS hL)
theorem x_if_gt {x : Int32} {off : Int} (tgt : Nat) (hd : decode M.2.1 pc = .ok (.ifCond .gt off, 3)) (ht : (pc : Int) + off = (tgt : Int)) (kt : 0 < x → XP κ b M h sh tgt L S σ o1) (kf : ¬ 0 < x → XP κ b M h sh (pc + 3) L S σ o2) : XP κ b M h sh pc L (.int x :: S) σ (if 0 < x then o1 else o2) := by
  intro r σ' ho p l e s m args below meth c D ad cI A hC hK hD hA hE H locs ls hP hS hL
  exact lv_if_gt hC.1 hC.2.1 hd ht (fun hc => kt hc r σ' (by rw [if_pos hc] at ho; exact ho) p l e s m args below meth c D ad cI A hC hK hD hA hE H locs ls hP hS hL) (fun hc => kf hc r σ' (by rw [if_neg hc] at ho; exact ho) p l e s m args below meth c D ad cI A hC hK hD hA hE H locs ls hP hS hL)
theorem x_icmp_le {x y : Int32} {off : Int} (tgt : Nat) (hd : decode M.2.1 pc = .ok (.if_icmp .le off, 3)) (ht : (pc : Int) + off = (tgt : Int)) (kt : x ≤ y → XP κ b M h sh tgt L S σ o1) (kf : ¬ x ≤ y → XP κ b M h sh (pc + 3) L S σ o2) : XP κ b M h sh pc L (.int y :: .int x :: S) σ (if x ≤ y then o1 else o2) := by
  intro r σ' ho p l e s m args below meth c D ad cI A hC hK hD hA hE H locs ls hP hS hL
  exact lv_icmp_le hC.1 hC.2.1 hd ht (fun hc => kt hc r σ' (by rw [if_pos hc] at ho; exact ho) p l e s m args below meth c D ad cI A hC hK hD hA hE H locs ls hP hS hL) (fun hc => kf hc r σ' (by rw [if_neg hc] at ho; exact ho) p l e s m args below meth c D ad cI A hC hK hD hA hE H locs ls hP hS hL)
theorem x_if_le {x : Int32} {off : Int} (tgt : Nat) (hd : decode M.2.1 pc = .ok (.ifCond .le off, 3)) (ht : (pc : Int) + off = (tgt : Int)) (kt : x ≤ 0 → XP κ b M h sh tgt L S σ o1) (kf : ¬ x ≤ 0 → XP κ b M h sh (pc + 3) L S σ o2) : XP κ b M h sh pc L (.int x :: S) σ (if x ≤ 0 then o1 else o2) := by
  intro r σ' ho p l e s m args below meth c D ad cI A hC hK hD hA hE H locs ls hP hS hL
  exact lv_if_le hC.1 hC.2.1 hd ht (fun hc => kt hc r σ' (by rw [if_pos hc] at ho; exact ho) p l e s m args below meth c D ad cI A hC hK hD hA hE H locs ls hP hS hL) (fun hc => kf hc r σ' (by rw [if_neg hc] at ho; exact ho) p l e s m args below meth c D ad cI A hC hK hD hA hE H locs ls hP hS hL)
theorem x_goto {off : Int} (tgt : Nat) (hd : decode M.2.1 pc = .ok (.goto off, 3)) (ht : (pc : Int) + off = (tgt : Int)) (k : XP κ b M h sh tgt L S σ o) : XP κ b M h sh pc L S σ o := by
  intro r σ' ho p l e s m args below meth c D ad cI A hC hK hD hA hE H locs ls hP hS hL
  exact lv_goto hC.1 hC.2.1 hd ht (k r σ' ho p l e s m args below meth c D ad cI A hC hK hD hA hE H locs ls hP hS hL)
theorem x_tabI {dflt lo hi : Int} {offs : Array Int} {len : Nat} {x v : Int32} {off : Int} (tgt : Nat) (hd : decode M.2.1 pc = .ok (.tableswitch dflt lo hi offs, len)) (hx : x = v) (h1 : ¬ v.toInt < lo) (h2 : ¬ hi < v.toInt) (hof : offs[(v.toInt - lo).toNat]? = some off) (ht : (pc : Int) + off = (tgt : Int)) (k : XP κ b M h sh tgt L S σ o) : XP κ b M h sh pc L (.int x :: S) σ o := by
  subst hx
  intro r σ' ho p l e s m args below meth c D ad cI A hC hK hD hA hE H locs ls hP hS hL
  exact lv_tableIn hC.1 hC.2.1 hd h1 h2 hof ht (k r σ' ho p l e s m args below meth c D ad cI A hC hK hD hA hE H locs ls hP hS hL)
theorem x_tabO {dflt lo hi : Int} {offs : Array Int} {len : Nat} {x : Int32} (tgt : Nat) (hd : decode M.2.1 pc = .ok (.tableswitch dflt lo hi offs, len)) (hx : x.toInt < lo ∨ hi < x.toInt) (ht : (pc : Int) + dflt = (tgt : Int)) (k : XP κ b M h sh tgt L S σ o) : XP κ b M h sh pc L (.int x :: S) σ o := by
  intro r σ' ho p l e s m args below meth c D ad cI A hC hK hD hA hE H locs ls hP hS hL
  exact lv_tableOut hC.1 hC.2.1 hd hx ht (k r σ' ho p l e s m args below meth c D ad cI A hC hK hD hA hE H locs ls hP hS hL)
theorem x_look {dflt : Int} {ps : Array (Int × Int)} {len : Nat} {x : Int32} {off : Int} (tgt : Nat) (hd : decode M.2.1 pc = .ok (.lookupswitch dflt ps, len)) (hp : (ps.toList.zip (ps.toList.drop 1)).all (fun (a, next) => a.1 < next.1) = true) (hof : Op.lookupswitch.offset ps.toList dflt x.toInt = off) (ht : (pc : Int) + off = (tgt : Int)) (k : XP κ b M h sh tgt L S σ o) : XP κ b M h sh pc L (.int x :: S) σ o := by
  intro r σ' ho p l e s m args below meth c D ad cI A hC hK hD hA hE H locs ls hP hS hL
  exact lv_lookup hC.1 hC.2.1 hd hp hof ht (k r σ' ho p l e s m args below meth c D ad cI A hC hK hD hA hE H locs ls hP hS hL)
theorem x_ne {x v : Int32} (n : Int) (hv : v.toInt = n) (h : ¬ x = v) : x.toInt ≠ n := fun e => h (Int32.toInt_inj.mp (e.trans hv.symm))
/-! fields and rows of ints -/
def x_FL (own : String) (index ci k : Nat) : Prop := ∃ (C : String) (T : u_T) (N : Nat), CL[ci]? = some (C, T, N) ∧ (∀ w ∈ u_ws C T N, w ∈ xT) ∧ k < N ∧ Cond.fieldLink own index (T k).1 (T k).2.1 (T k).2.2.1 ∈ xT
def x_FP (own : String) (index ci k : Nat) (ty : FieldType) : Prop := ∃ (C : String) (T : u_T) (N : Nat) (ty0 : Nat → FieldType), CL[ci]? = some (C, T, N) ∧ (∀ w ∈ u_ws C T N, w ∈ xT) ∧ k < N ∧ Cond.fieldLink own index (T k).1 (T k).2.1 (T k).2.2.1 ∈ xT ∧
  (∀ k, k < N → parseFieldDescriptor (T k).2.2.1 = some (ty0 k)) ∧ (∀ a, a < N → ∀ b, b < N → a ≠ b → (T a).2.1 ≠ (T b).2.1) ∧ (T k).2.2.2 = false ∧ parseFieldDescriptor (T k).2.2.1 = some ty
theorem x_getI {index ci k i : Nat} {fs : List (Option Nat × Bool)} (hd : decode M.2.1 pc = .ok (.getfield index, 3)) (hl : x_FL M.1 index ci k) (he : sh[i]? = some (.inr (ci, fs))) (hf : fs[k]? = some (none, false)) (kk : XP κ b M h sh (pc + 3) L (.int (σ.1 i k) :: S) σ o) : XP κ b M h sh pc L (.ref i :: S) σ o := by
  obtain ⟨C, T, N, h1, h2, h3, h4⟩ := hl
  intro r σ' ho p l e s m args below meth c D ad cI A hC hK hD hA hE H locs ls hP hS hL
  exact va_get hC.1 hC.2.1 hC.2.2.2.2.2.2 h2 hC.2.2.2.2.1 hK hP i (x_w_at he) h1 k h3 (hC.2.2.2.2.2.2 _ h4) (fun _ h9 => h9) (v := x_v ad (.int (σ.1 i k))) (by simp [hf, x_fv, x_v]) hd (kk r σ' ho p l e s m args below meth c D ad cI A hC hK hD hA hE H locs ls hP hS hL)
theorem x_getL {index ci k i : Nat} {fs : List (Option Nat × Bool)} (hd : decode M.2.1 pc = .ok (.getfield index, 3)) (hl : x_FL M.1 index ci k) (he : sh[i]? = some (.inr (ci, fs))) (hf : fs[k]? = some (none, true)) (kk : XP κ b M h sh (pc + 3) L (.long σ.2 :: S) σ o) : XP κ b M h sh pc L (.ref i :: S) σ o := by
  obtain ⟨C, T, N, h1, h2, h3, h4⟩ := hl
  intro r σ' ho p l e s m args below meth c D ad cI A hC hK hD hA hE H locs ls hP hS hL
  exact va_get hC.1 hC.2.1 hC.2.2.2.2.2.2 h2 hC.2.2.2.2.1 hK hP i (x_w_at he) h1 k h3 (hC.2.2.2.2.2.2 _ h4) (fun _ h9 => h9) (v := x_v ad (.long σ.2)) (by simp [hf, x_fv, x_v]) hd (kk r σ' ho p l e s m args below meth c D ad cI A hC hK hD hA hE H locs ls hP hS hL)
theorem x_getR {index ci k i : Nat} {j : Nat} {fs : List (Option Nat × Bool)} (hd : decode M.2.1 pc = .ok (.getfield index, 3)) (hl : x_FL M.1 index ci k) (he : sh[i]? = some (.inr (ci, fs))) (hf : fs[k]? = some (some j, true)) (kk : XP κ b M h sh (pc + 3) L (.ref j :: S) σ o) : XP κ b M h sh pc L (.ref i :: S) σ o := by
  obtain ⟨C, T, N, h1, h2, h3, h4⟩ := hl
  intro r σ' ho p l e s m args below meth c D ad cI A hC hK hD hA hE H locs ls hP hS hL
  exact va_get hC.1 hC.2.1 hC.2.2.2.2.2.2 h2 hC.2.2.2.2.1 hK hP i (x_w_at he) h1 k h3 (hC.2.2.2.2.2.2 _ h4) (fun _ h9 => h9) (v := x_v ad (.ref j)) (by simp [hf, x_fv, x_v]) hd (kk r σ' ho p l e s m args below meth c D ad cI A hC hK hD hA hE H locs ls hP hS hL)
theorem x_putI {index ci k i : Nat} {v : Int32} {fs : List (Option Nat × Bool)} (hd : decode M.2.1 pc = .ok (.putfield index, 3)) (hl : x_FP M.1 index ci k .int) (he : sh[i]? = some (.inr (ci, fs))) (hf : fs[k]? = some (none, false)) (kk : XP κ b M h sh (pc + 3) L S (up2 σ i k v) o) : XP κ b M h sh pc L (.int v :: .ref i :: S) σ o := by
  obtain ⟨C, T, N, ty0, h1, h2, h3, h4, h5, h6, h7, h8⟩ := hl
  intro r σ' ho p l e s m args below meth c D ad cI A hC hK hD hA hE H locs ls hP hS hL
  refine va_put hC.1 hC.2.1 hC.2.2.2.2.2.2 h2 ty0 h5 h6 hC.2.2.2.2.1 hK hP hD hS i (x_w_at he) h1 k h3 (hC.2.2.2.2.2.2 _ h4) (fun _ h9 => h9) h7 (v := .int v) h8 (vp_nar_int v) rfl (by simp; exact (List.getElem?_eq_some_iff.mp hf).1) hd (fun H1 locs1 hP1 hD1 hS1 => ?_)
  rw [x_w_fst he hf] at hP1 hD1
  exact kk r σ' ho p l e s m args below meth c D ad cI A hC hK hD1 hA hE H1 locs1 ls hP1 hS1 hL
theorem x_putZ {index ci k i : Nat} {v : Int32} {fs : List (Option Nat × Bool)} (hd : decode M.2.1 pc = .ok (.putfield index, 3)) (hl : x_FP M.1 index ci k .boolean) (he : sh[i]? = some (.inr (ci, fs))) (hf : fs[k]? = some (none, false)) (kk : XP κ b M h sh (pc + 3) L S (up2 σ i k v) o) : XP κ b M h sh pc L (.int v :: .ref i :: S) σ (gb v o) := by
  by_cases hv : ¬ (v = 0 ∨ v = 1)
  · rw [gb, if_neg hv]; exact x_none
  have hv := Classical.not_not.mp hv
  rw [gb, if_pos hv]
  obtain ⟨C, T, N, ty0, h1, h2, h3, h4, h5, h6, h7, h8⟩ := hl
  intro r σ' ho p l e s m args below meth c D ad cI A hC hK hD hA hE H locs ls hP hS hL
  refine va_put hC.1 hC.2.1 hC.2.2.2.2.2.2 h2 ty0 h5 h6 hC.2.2.2.2.1 hK hP hD hS i (x_w_at he) h1 k h3 (hC.2.2.2.2.2.2 _ h4) (fun _ h9 => h9) h7 (v := .int v) h8 (by rcases hv with rfl | rfl <;> rfl) (by rcases hv with rfl | rfl <;> rfl) (by simp; exact (List.getElem?_eq_some_iff.mp hf).1) hd (fun H1 locs1 hP1 hD1 hS1 => ?_)
  rw [x_w_fst he hf] at hP1 hD1
  exact kk r σ' ho p l e s m args below meth c D ad cI A hC hK hD1 hA hE H1 locs1 ls hP1 hS1 hL
theorem x_putL {index ci k i : Nat} {v : Int64} {fs : List (Option Nat × Bool)} (hd : decode M.2.1 pc = .ok (.putfield index, 3)) (hl : x_FP M.1 index ci k .long) (he : sh[i]? = some (.inr (ci, fs))) (hf : fs[k]? = some (none, true)) (hu : ∀ (i2 ci2 : Nat) (g : List (Option Nat × Bool)) (j : Nat), sh[i2]? = some (.inr (ci2, g)) → g[j]? = some (none, true) → i2 = i ∧ j = k) (kk : XP κ b M h sh (pc + 3) L S (upl σ v) o) : XP κ b M h sh pc L (.long v :: .ref i :: S) σ o := by
  obtain ⟨C, T, N, ty0, h1, h2, h3, h4, h5, h6, h7, h8⟩ := hl
  intro r σ' ho p l e s m args below meth c D ad cI A hC hK hD hA hE H locs ls hP hS hL
  refine va_put hC.1 hC.2.1 hC.2.2.2.2.2.2 h2 ty0 h5 h6 hC.2.2.2.2.1 hK hP hD hS i (x_w_at he) h1 k h3 (hC.2.2.2.2.2.2 _ h4) (fun _ h9 => h9) h7 (v := .long v) h8 rfl rfl (by simp; exact (List.getElem?_eq_some_iff.mp hf).1) hd (fun H1 locs1 hP1 hD1 hS1 => ?_)
  rw [x_w_lst he hf hu] at hP1 hD1
  exact kk r σ' ho p l e s m args below meth c D ad cI A hC hK hD1 hA hE H1 locs1 ls hP1 hS1 hL
theorem x_iald {c0 n : Nat} {i : Int32} (hd : decode M.2.1 pc = .ok (.iaload, 1)) (he : sh[c0]? = some (.inl n)) (kk : XP κ b M h sh (pc + 1) L (.int (σ.1 c0 i.toNatClampNeg) :: S) σ o) : XP κ b M h sh pc L (.int i :: .ref c0 :: S) σ (gi i n o) := by
  by_cases hi : i < 0 ∨ n ≤ i.toNatClampNeg
  · rw [gi, if_pos hi]; exact x_none
  rw [gi, if_neg hi]
  intro r σ' ho p l e s m args below meth c D ad cI A hC hK hD hA hE H locs ls hP hS hL
  exact va_iald hC.1 hC.2.1 hK hP c0 0 (x_w_at he) rfl hi hd (kk r σ' ho p l e s m args below meth c D ad cI A hC hK hD hA hE H locs ls hP hS hL)
theorem x_iast {c0 n : Nat} {i x : Int32} (hd : decode M.2.1 pc = .ok (.iastore, 1)) (he : sh[c0]? = some (.inl n)) (kk : XP κ b M h sh (pc + 1) L S (up2 σ c0 i.toNatClampNeg x) o) : XP κ b M h sh pc L (.int x :: .int i :: .ref c0 :: S) σ (gi i n o) := by
  by_cases hi : i < 0 ∨ n ≤ i.toNatClampNeg
  · rw [gi, if_pos hi]; exact x_none
  rw [gi, if_neg hi]
  intro r σ' ho p l e s m args below meth c D ad cI A hC hK hD hA hE H locs ls hP hS hL
  refine va_iast hC.1 hC.2.1 hK hP hD hS c0 0 (x_w_at he) rfl hi hd (fun H1 locs1 hP1 hD1 hS1 => ?_)
  rw [x_w_ast he] at hP1 hD1
  exact kk r σ' ho p l e s m args below meth c D ad cI A hC hK hD1 hA hE H1 locs1 ls hP1 hS1 hL
theorem x_sum (ad : Nat → Nat) (S : List Value) : ((S.map (x_v ad)).map fun v => v.category).sum = (S.map fun v => v.category).sum := by
  induction S with
  | nil => rfl
  | cons v S ih => simp only [List.map_cons, List.sum_cons, ih, x_v_cat]
/-! a named value, a named state -/
def vb {α β : Type} (x : α) (k : α → β) : β := k x
theorem x_istore_nB {n : Fin 4} {i : Nat} {x : Int32} {k : Int32 → Option (ρ × xSt)} (hd : decode M.2.1 pc = .ok (.istore_n n, 1)) (hi : (n : Nat) = i) (hn : Nat.ble (i + 1) M.2.2.1 = true) (hq : x_nl L i = true) (kk : ∀ v : Int32, XP κ b M h sh (pc + 1) (L.set i (some (.int v))) S σ (k v)) : XP κ b M h sh pc L (.int x :: S) σ (vb x k) := x_istore_n hd hi hn hq (kk x)
theorem x_istoreB {i : Nat} {x : Int32} {k : Int32 → Option (ρ × xSt)} (hd : decode M.2.1 pc = .ok (.istore i, 2)) (hn : Nat.ble (i + 1) M.2.2.1 = true) (hq : x_nl L i = true) (kk : ∀ v : Int32, XP κ b M h sh (pc + 2) (L.set i (some (.int v))) S σ (k v)) : XP κ b M h sh pc L (.int x :: S) σ (vb x k) := x_istore hd hn hq (kk x)
theorem x_lstore_nB {n : Fin 4} {i : Nat} {x : Int64} {k : Int64 → Option (ρ × xSt)} (hd : decode M.2.1 pc = .ok (.lstore_n n, 1)) (hi : (n : Nat) = i) (hn : Nat.ble (i + 1 + 1) M.2.2.1 = true) (hq : x_nl L i = true) (kk : ∀ v : Int64, XP κ b M h sh (pc + 1) ((L.set (i + 1) none).set i (some (.long v))) S σ (k v)) : XP κ b M h sh pc L (.long x :: S) σ (vb x k) := x_lstore_n hd hi hn hq (kk x)
theorem x_lstoreB {i : Nat} {x : Int64} {k : Int64 → Option (ρ × xSt)} (hd : decode M.2.1 pc = .ok (.lstore i, 2)) (hn : Nat.ble (i + 1 + 1) M.2.2.1 = true) (hq : x_nl L i = true) (kk : ∀ v : Int64, XP κ b M h sh (pc + 2) ((L.set (i + 1) none).set i (some (.long v))) S σ (k v)) : XP κ b M h sh pc L (.long x :: S) σ (vb x k) := x_lstore hd hn hq (kk x)
theorem x_iastB {c0 n : Nat} {i x : Int32} {k : xSt → Option (ρ × xSt)} (hd : decode M.2.1 pc = .ok (.iastore, 1)) (he : sh[c0]? = some (.inl n)) (kk : ∀ σ1 : xSt, XP κ b M h sh (pc + 1) L S σ1 (k σ1)) : XP κ b M h sh pc L (.int x :: .int i :: .ref c0 :: S) σ (gi i n (vb (up2 σ c0 i.toNatClampNeg x) k)) := x_iast hd he (kk _)
theorem x_putIB {index ci k0 i : Nat} {v : Int32} {fs : List (Option Nat × Bool)} {k : xSt → Option (ρ × xSt)} (hd : decode M.2.1 pc = .ok (.putfield index, 3)) (hl : x_FP M.1 index ci k0 .int) (he : sh[i]? = some (.inr (ci, fs))) (hf : fs[k0]? = some (none, false)) (kk : ∀ σ1 : xSt, XP κ b M h sh (pc + 3) L S σ1 (k σ1)) : XP κ b M h sh pc L (.int v :: .ref i :: S) σ (vb (up2 σ i k0 v) k) := x_putI hd hl he hf (kk _)
theorem x_putZB {index ci k0 i : Nat} {v : Int32} {fs : List (Option Nat × Bool)} {k : xSt → Option (ρ × xSt)} (hd : decode M.2.1 pc = .ok (.putfield index, 3)) (hl : x_FP M.1 index ci k0 .boolean) (he : sh[i]? = some (.inr (ci, fs))) (hf : fs[k0]? = some (none, false)) (kk : ∀ σ1 : xSt, XP κ b M h sh (pc + 3) L S σ1 (k σ1)) : XP κ b M h sh pc L (.int v :: .ref i :: S) σ (gb v (vb (up2 σ i k0 v) k)) := x_putZ hd hl he hf (kk _)
theorem x_putLB {index ci k0 i : Nat} {v : Int64} {fs : List (Option Nat × Bool)} {k : xSt → Option (ρ × xSt)} (hd : decode M.2.1 pc = .ok (.putfield index, 3)) (hl : x_FP M.1 index ci k0 .long) (he : sh[i]? = some (.inr (ci, fs))) (hf : fs[k0]? = some (none, true)) (hu : ∀ (i2 ci2 : Nat) (g : List (Option Nat × Bool)) (j : Nat), sh[i2]? = some (.inr (ci2, g)) → g[j]? = some (none, true) → i2 = i ∧ j = k0) (kk : ∀ σ1 : xSt, XP κ b M h sh (pc + 3) L S σ1 (k σ1)) : XP κ b M h sh pc L (.long v :: .ref i :: S) σ (vb (upl σ v) k) := x_putL hd hl he hf hu (kk _)
theorem x_mmax {x y : Int32} {index : Nat} (hd : decode M.2.1 pc = .ok (.invokestatic index, 3)) (hl : Cond.methodLink M.1 index Lib.Math.max.name ∈ xT ∧ Cond.static Lib.Math.max.name ∈ xT ∧ Cond.initialized "java/lang/Math" ∈ xT ∧ Cond.code Lib.Math.max.name Lib.Math.max.code 2 (some .int) ∈ xT) (hh : Nat.ble 1 h = true) (hw : Nat.ble ((S.map fun v => v.category).sum) 8 = true) (k : XP κ b M h sh (pc + 3) L (.int (if x < y then y else x) :: S) σ o) : XP κ b M h sh pc L (.int y :: .int x :: S) σ o := by
  intro r σ' ho p l e s m args below meth c D ad cI A hC hK hD hA hE H locs ls hP hS hL
  have h1 := Nat.le_of_ble_eq_true hh
  have h2 := Nat.le_of_ble_eq_true hw
  exact va_mmax hC.1 hC.2.1 (hC.2.2.2.1.trans hL.1.symm) hC.2.2.2.2.1 (hC.2.2.2.2.2.2 _ hl.1) (hC.2.2.2.2.2.2 _ hl.2.1) (hC.2.2.2.2.2.2 _ hl.2.2.1) (hC.2.2.2.2.2.2 _ hl.2.2.2) h1 (by rw [x_sum]; show _ + 13 ≤ 64 * h; omega) (Nat.le_refl _) (Nat.le_refl _) hd (k r σ' ho p l e s m args below meth c D ad cI A hC hK hD hA hE H locs ls hP hS hL)
theorem x_mmin {x y : Int32} {index : Nat} (hd : decode M.2.1 pc = .ok (.invokestatic index, 3)) (hl : Cond.methodLink M.1 index Lib.Math.min.name ∈ xT ∧ Cond.static Lib.Math.min.name ∈ xT ∧ Cond.initialized "java/lang/Math" ∈ xT ∧ Cond.code Lib.Math.min.name Lib.Math.min.code 2 (some .int) ∈ xT) (hh : Nat.ble 1 h = true) (hw : Nat.ble ((S.map fun v => v.category).sum) 8 = true) (k : XP κ b M h sh (pc + 3) L (.int (if y < x then y else x) :: S) σ o) : XP κ b M h sh pc L (.int y :: .int x :: S) σ o := by
  intro r σ' ho p l e s m args below meth c D ad cI A hC hK hD hA hE H locs ls hP hS hL
  have h1 := Nat.le_of_ble_eq_true hh
  have h2 := Nat.le_of_ble_eq_true hw
  exact va_mmin hC.1 hC.2.1 (hC.2.2.2.1.trans hL.1.symm) hC.2.2.2.2.1 (hC.2.2.2.2.2.2 _ hl.1) (hC.2.2.2.2.2.2 _ hl.2.1) (hC.2.2.2.2.2.2 _ hl.2.2.1) (hC.2.2.2.2.2.2 _ hl.2.2.2) h1 (by rw [x_sum]; show _ + 13 ≤ 64 * h; omega) (Nat.le_refl _) (Nat.le_refl _) hd (k r σ' ho p l e s m args below meth c D ad cI A hC hK hD hA hE H locs ls hP hS hL)
theorem x_le_e {q : List (Option Value)} : x_le [] q := trivial
theorem x_le_s {v : Value} {w : Option Value} {p q : List (Option Value)} (hv : w = some v) (ht : x_le p q) : x_le (some v :: p) (w :: q) := ⟨hv, ht⟩
theorem x_le_n {w : Option Value} {p q : List (Option Value)} (ht : x_le p q) : x_le (none :: p) (w :: q) := ht
theorem x_inw {C : String} {T : u_T} {N : Nat} (ps : List Nat) (hp : u_ws C T N = ps.filterMap (fun i => lw_tbl[i]?)) (hg : (u_ws C T N).all goodWord = true) : ∀ w ∈ u_ws C T N, w ∈ xT := by
  intro w hw
  have hg1 := List.all_eq_true.mp hg w hw
  rw [hp] at hw
  obtain ⟨i, -, hi⟩ := List.mem_filterMap.mp hw
  exact xT_of i hi hg1
/-! returns -/
theorem x_iret {v : Int32} (hd : decode M.2.1 pc = .ok (.ireturn, 1)) (hr : M.2.2.2 = some .int) : XP κi b M h sh pc L [.int v] σ (some (v, σ)) := by
  intro r σ' ho p l e s m args below meth c D ad cI A hC hK hD hA hE H locs ls hP hS hL
  cases ho
  exact W.iret hC.1 hC.2.1 (hC.2.2.1.trans hr) (fun t ht hW => ⟨rfl, by rw [ht]; exact hP, va_K.moved hW.alike hK, hS.F ht⟩) hS.2.2 hd hC.2.2.2.2.2.1
theorem x_zret {v : Int32} (hd : decode M.2.1 pc = .ok (.ireturn, 1)) (hr : M.2.2.2 = some .boolean) : XP κi b M h sh pc L [.int v] σ (gb v (some (v, σ))) := by
  by_cases hv : ¬ (v = 0 ∨ v = 1)
  · rw [gb, if_neg hv]; exact x_none
  have hv := Classical.not_not.mp hv
  rw [gb, if_pos hv]
  intro r σ' ho p l e s m args below meth c D ad cI A hC hK hD hA hE H locs ls hP hS hL
  cases ho
  exact W.zret hC.1 hC.2.1 (hC.2.2.1.trans hr) (by rcases hv with rfl | rfl <;> rfl) (fun t ht hW => ⟨rfl, by rw [ht]; exact hP, va_K.moved hW.alike hK, hS.F ht⟩) hS.2.2 hd hC.2.2.2.2.2.1
theorem x_lret {v : Int64} (hd : decode M.2.1 pc = .ok (.lreturn, 1)) (hr : M.2.2.2 = some .long) : XP κl b M h sh pc L [.long v] σ (some (v, σ)) := by
  intro r σ' ho p l e s m args below meth c D ad cI A hC hK hD hA hE H locs ls hP hS hL
  cases ho
  exact W.lret hC.1 hC.2.1 (hC.2.2.1.trans hr) (fun t ht hW => ⟨rfl, by rw [ht]; exact hP, va_K.moved hW.alike hK, hS.F ht⟩) hS.2.2 hd hC.2.2.2.2.2.1
theorem x_vret (hd : decode M.2.1 pc = .ok (.return_, 1)) (hr : M.2.2.2 = none) : XP κv b M h sh pc L [] σ (some ((), σ)) := by
  intro r σ' ho p l e s m args below meth c D ad cI A hC hK hD hA hE H locs ls hP hS hL
  cases ho
  exact W.vret hC.1 hC.2.1 (hC.2.2.1.trans hr) (fun t ht hW => ⟨rfl, by rw [ht]; exact hP, va_K.moved hW.alike hK, hS.F ht⟩) hS.2.2 hd hC.2.2.2.2.2.1
theorem x_aret {v : Nat} {n : String} (hd : decode M.2.1 pc = .ok (.areturn, 1)) (hr : M.2.2.2 = some (.object n)) : XP κa b M h sh pc L [.ref v] σ (some (v, σ)) := by
  intro r σ' ho p l e s m args below meth c D ad cI A hC hK hD hA hE H locs ls hP hS hL
  cases ho
  exact W.aret hC.1 hC.2.1 (hC.2.2.1.trans hr) (Or.inl ⟨n, rfl⟩) (Or.inr ⟨_, rfl⟩) (fun t ht hW => ⟨rfl, by rw [ht]; exact hP, va_K.moved hW.alike hK, hS.F ht⟩) hS.2.2 hd hC.2.2.2.2.2.1
/-! calls -/
def x_B (b : Bool) (D : va_G) (ad : Nat → Nat) (cI : ClassId) (sh : xSh) (σ : xSt) (sz : Nat) : State → Prop := fun U => U.heap.size = sz ∧ va_P D CL (x_w ad cI sh σ) U.heap ∧ va_K D CL [(cI, .int)] U ∧ va_D (fun _ => True) (x_w ad cI sh σ) ∧ x_E b ad (va_A (x_w ad cI sh σ) sz) U U.heap
def Con (y : MethodName) (M : xM) (b : Bool) (h : Nat) (sh : xSh) (av : List Value) (σ : xSt) (rv : Option Value) (σ' : xSt) : Prop :=
  ∀ (l : Launch) (D : va_G) (ad : Nat → Nat) (cI : ClassId) (sz : Nat), Met l y (.code y M.2.1 M.2.2.1 M.2.2.2 :: xT) (x_rm h) (va_Pc (av.map (x_v ad)) (x_B b D ad cI sh σ sz)) (x_Q D ad cI sh (va_A (x_w ad cI sh σ) sz) rv σ') 0 0 (va_A (x_w ad cI sh σ) sz)
def CON {ρ : Type} (κ : ρ → Option Value) (y : MethodName) (M : xM) (b : Bool) (h : Nat) (sh : xSh) (av : List Value) (σ : xSt) (o : Option (ρ × xSt)) : Prop := ∀ r σ', o = some (r, σ') → Con y M b h sh av σ (κ r) σ'
theorem x_B_blind (b : Bool) (D : va_G) (ad : Nat → Nat) (cI : ClassId) (sh : xSh) (σ : xSt) (sz : Nat) (av : List Value) : FrameBlind (va_Pc av (x_B b D ad cI sh σ sz)) := by
  intro a U g mk q
  obtain ⟨q0, q1, qP, qK, qD, qE⟩ := q
  exact ⟨q0, q1, qP, va_K.moved (u := U) (U := U.calling g mk a) (Vm.Alike.refl U.vm) qK, qD, qE.calling⟩
theorem x_len (y : MethodName) {M : xM} (hc : Cond.code y M.2.1 M.2.2.1 M.2.2.2 ∈ xT) : ∀ w ∈ (Cond.code y M.2.1 M.2.2.1 M.2.2.2 :: xT), w ∈ xT := fun w hw => (List.mem_cons.mp hw).elim (fun e => e ▸ hc) id
def x_SL (own : String) (index : Nat) (y : MethodName) (M : xM) (n : Nat) : Prop := (Cond.methodLink own index y ∈ xT ∧ Cond.static y ∈ xT ∧ Cond.initialized y.cls ∈ xT ∧ Cond.code y M.2.1 M.2.2.1 M.2.2.2 ∈ xT) ∧ (y.cls ≠ "java/lang/invoke/MethodHandle" ∧ y.cls ≠ "java/lang/invoke/VarHandle" ∧ (parseMethodDescriptor y.desc).map (fun d => d.parameters.length) = some n) ∧ M.2.2.1 ≤ 45
def x_SN (own : String) (index : Nat) (y : MethodName) (M : xM) (n : Nat) : Prop := (True ∧ Cond.static y ∈ xT ∧ Cond.initialized y.cls ∈ xT ∧ Cond.code y M.2.1 M.2.2.1 M.2.2.2 ∈ xT) ∧ (y.cls ≠ "java/lang/invoke/MethodHandle" ∧ y.cls ≠ "java/lang/invoke/VarHandle" ∧ (parseMethodDescriptor y.desc).map (fun d => d.parameters.length) = some n) ∧ M.2.2.1 ≤ 45
def x_VL (own : String) (index : Nat) (y : MethodName) (M : xM) (n : Nat) : Prop := (Cond.methodLink own index y ∈ xT ∧ Cond.instanceMethod y ∈ xT ∧ Cond.selects y.cls y y ∈ xT ∧ Cond.initialized y.cls ∈ xT ∧ Cond.code y M.2.1 M.2.2.1 M.2.2.2 ∈ xT) ∧ (y.cls ≠ "java/lang/invoke/MethodHandle" ∧ y.cls ≠ "java/lang/invoke/VarHandle" ∧ (parseMethodDescriptor y.desc).map (fun d => d.parameters.length) = some n) ∧ M.2.2.1 ≤ 45
theorem x_room {h h' n : Nat} (hh : h' + 1 ≤ h) (hn : n ≤ 45) : (x_rm h').frames + 1 ≤ (x_rm h).frames ∧ 8 + (n + 11) + (x_rm h').locals ≤ (x_rm h).locals := ⟨hh, by show 8 + (n + 11) + 64 * h' ≤ 64 * h; omega⟩
theorem x_run {p : Program} {l : Launch} {e : Env} {s : State} {m : MethodId} {args : Array Value} {below : List Frame} {meth : Method} {c : Code} {R : Room} {H : Heap} {locs : List Loc} {Q : State → Prop} {pc : Nat} {ls : Array Slot} {rest st0 : List Value} {a : Array Value} {A A1 : Nat → Prop} {free : Addr → Prop} {D : va_G} {ad : Nat → Nat} {cI : ClassId} {rv : Option Value} {σ1 : xSt}
    (hr : va_Run p l e R s m args below meth c H locs 0 0 0 0 (F0 m pc ls st0) rest (x_Q D ad cI sh A1 rv σ1 a) free) (hS : va_S A s.heap H locs) (hA : ∀ q, q < H.size → A1 q → A q) (hf : ∀ q, free q → A q)
    (kk : ∀ (H1 : Heap) (locs1 : List Loc), va_P D CL (x_w ad cI sh σ1) H1 → va_S A s.heap H1 locs1 → W p l e R s m args below meth c H1 locs1 0 0 Q (F0 m (pc + 3) ls ((rv.map (x_v ad)).toList ++ rest))) : W p l e R s m args below meth c H locs 0 0 Q (F0 m pc ls st0) := by
  intro T hT X
  obtain ⟨v, st₀, t, T', L, h0, X', hL, e1, e2, ⟨hv, hp, hk, hz, hkk⟩, st⟩ := hr T hT X
  cases hv
  rw [h0] at hz hkk
  obtain ⟨t2, a1, b1⟩ := kk T'.heap (locs ++ L) (by rw [e1]; exact hp)
    ⟨Nat.le_trans hS.1 (by rw [e1]; exact hz), fun q h1 h2 => by rw [e1, hkk q (Nat.lt_of_lt_of_le h1 hS.1) (fun z => h2 (hA q (Nat.lt_of_lt_of_le h1 hS.1) z))]; exact hS.2.1 q h1 h2, fun q hq => by
      rcases List.mem_append.mp hq with h | h
      · exact hS.2.2 q h
      · exact hf _ (hL q h)⟩ T' rfl X'
  exact ⟨t2, st t2 a1, b1⟩
theorem x_free {ad : Nat → Nat} {cI : ClassId} {A : Nat → Prop} {H0 H : Heap} {locs : List Loc} (hD : va_D A (x_w ad cI sh σ)) (hS : va_S A H0 H locs) (hA : ∀ q, H0.size ≤ q → A q) : ∀ q, va_A (x_w ad cI sh σ) H.size q → A q := by
  rintro q (⟨k, e, hk⟩ | hq)
  · exact hD.2 k _ hk
  · exact hA q (Nat.le_trans hS.1 hq)
theorem x_callS {ρ' : Type} {κ' : ρ' → Option Value} {y : MethodName} {M' : xM} {h' n index : Nat} {av : List Value} {oc : Option (ρ' × xSt)} {k : ρ' → xSt → Option (ρ × xSt)} (hd : decode M.2.1 pc = .ok (.invokestatic index, 3)) (hl : x_SL M.1 index y M' n) (hc : CON κ' y M' b h' sh av σ oc) (hh : Nat.ble (h' + 1) h = true) (hn : av.length = n) (hw : Nat.ble ((S.map fun v => v.category).sum) 8 = true)
    (kk : ∀ r σ1, XP κ b M h sh (pc + 3) L ((κ' r).toList ++ S) σ1 (k r σ1)) : XP κ b M h sh pc L (av.reverse ++ S) σ (bnd oc k) := by
  cases ho : oc with
  | none => exact x_none
  | some q =>
    obtain ⟨r1, σ1⟩ := q
    show XP κ b M h sh pc L (av.reverse ++ S) σ (k r1 σ1)
    have hcn := hc r1 σ1 ho
    intro r σ' ho p l e s m args below meth c D ad cI A hC hK hD hA hE H locs ls hP hS hL
    obtain ⟨⟨w1, w2, w3, w4⟩, hd3, hm⟩ := hl
    have hfr := x_free hD hS hA
    have hst : (av.reverse ++ S).map (x_v ad) = (av.map (x_v ad)).reverse ++ S.map (x_v ad) := by rw [List.map_append, List.map_reverse]
    rw [hst]
    refine x_run (A := A) (va_runS (nL := M.2.2.1) (As := av.map (x_v ad)) (rest := S.map (x_v ad)) (own := M.1) (Ts := xT) ⟨hC.1, hC.2.1, hC.2.2.2.1, hC.2.2.2.2.1, hC.2.2.2.2.2.2⟩ (hcn l D ad cI H.size) (va_cwS n hC.2.2.2.2.2.2 (x_GoodIn ?_) rfl rfl rfl hd3 (x_room (Nat.le_of_ble_eq_true hh) hm)) ⟨x_B_blind _ _ _ _ _ _ _ _, fun U hU hWm => ⟨rfl, by rw [hU], by rw [hU]; exact hP, va_K.moved hWm.alike hK, hD.weaken (fun _ _ _ _ => trivial), by rw [hU]; exact hE.go hWm hS.2.1 hfr⟩⟩ rfl (by rw [List.length_map]; exact hn) hL.1 rfl (by show 2 * 0 + _ ≤ 8; rw [x_sum]; have := Nat.le_of_ble_eq_true hw; omega) hd ⟨Nat.le_refl _, Nat.le_refl _⟩) hS (fun q _ h => hfr q h) hfr (fun H1 locs1 hP1 hS1 => ?_)
    · intro w hw
      simp only [va_wsS, List.mem_append, List.mem_cons, List.not_mem_nil, or_false] at hw
      rcases hw with (rfl | rfl | rfl) | rfl | hw
      · exact w1
      · exact w2
      · exact w3
      · exact w4
      · exact hw
    · have h9 := kk r1 σ1 r σ' ho p l e s m args below meth c D ad cI A hC hK (x_D hD) hA hE H1 locs1 ls hP1 hS1 hL
      rw [List.map_append] at h9
      cases hk9 : κ' r1 with
      | none => rw [hk9] at h9; exact h9
      | some v => rw [hk9] at h9; exact h9
theorem x_callN {ρ' : Type} {κ' : ρ' → Option Value} {y : MethodName} {M' : xM} {h' n index : Nat} {av : List Value} {oc : Option (ρ' × xSt)} {k : ρ' → xSt → Option (ρ × xSt)} (hd : decode M.2.1 pc = .ok (.invokestatic index, 3)) (hl : x_SN M.1 index y M' n) {host : String} (hl2 : ∀ (ad : Nat → Nat) (A : Nat → Prop) (U : State) (H : Heap), x_E b ad A U H → va_Nw (.methodLinkNest M.1 index y host) U) (hc : CON κ' y M' b h' sh av σ oc) (hh : Nat.ble (h' + 1) h = true) (hn : av.length = n) (hw : Nat.ble ((S.map fun v => v.category).sum) 8 = true)
    (kk : ∀ r σ1, XP κ b M h sh (pc + 3) L ((κ' r).toList ++ S) σ1 (k r σ1)) : XP κ b M h sh pc L (av.reverse ++ S) σ (bnd oc k) := by
  cases ho : oc with
  | none => exact x_none
  | some q =>
    obtain ⟨r1, σ1⟩ := q
    show XP κ b M h sh pc L (av.reverse ++ S) σ (k r1 σ1)
    have hcn := hc r1 σ1 ho
    intro r σ' ho p l e s m args below meth c D ad cI A hC hK hD hA hE H locs ls hP hS hL
    obtain ⟨⟨-, w2, w3, w4⟩, hd3, hm⟩ := hl
    have w1 := hl2 _ _ _ _ hE
    have hfr := x_free hD hS hA
    have hst : (av.reverse ++ S).map (x_v ad) = (av.map (x_v ad)).reverse ++ S.map (x_v ad) := by rw [List.map_append, List.map_reverse]
    rw [hst]
    refine x_run (A := A) (va_runSN (nL := M.2.2.1) (As := av.map (x_v ad)) (rest := S.map (x_v ad)) (own := M.1) (Ts := xT) ⟨hC.1, hC.2.1, hC.2.2.2.1, hC.2.2.2.2.1, hC.2.2.2.2.2.2⟩ (hcn l D ad cI H.size) ⟨va_cnB n hC.2.2.2.2.2.2 (x_GoodIn (x_len y w4)) rfl rfl rfl w1 (hC.2.2.2.2.2.2 _ w3) hd3 (x_room (Nat.le_of_ble_eq_true hh) hm), hC.2.2.2.2.2.2 _ w2, trivial⟩ ⟨x_B_blind _ _ _ _ _ _ _ _, fun U hU hWm => ⟨rfl, by rw [hU], by rw [hU]; exact hP, va_K.moved hWm.alike hK, hD.weaken (fun _ _ _ _ => trivial), by rw [hU]; exact hE.go hWm hS.2.1 hfr⟩⟩ rfl (by rw [List.length_map]; exact hn) hL.1 rfl (by show 2 * 0 + _ ≤ 8; rw [x_sum]; have := Nat.le_of_ble_eq_true hw; omega) hd ⟨Nat.le_refl _, Nat.le_refl _⟩) hS (fun q _ h => hfr q h) hfr (fun H1 locs1 hP1 hS1 => ?_)
    have h9 := kk r1 σ1 r σ' ho p l e s m args below meth c D ad cI A hC hK (x_D hD) hA hE H1 locs1 ls hP1 hS1 hL
    rw [List.map_append] at h9
    cases hk9 : κ' r1 with
    | none => rw [hk9] at h9; exact h9
    | some v => rw [hk9] at h9; exact h9
theorem x_callV {ρ' : Type} {κ' : ρ' → Option Value} {y : MethodName} {M' : xM} {h' n index i ci : Nat} {q : vw_C} {fs : List (Option Nat × Bool)} {av : List Value} {oc : Option (ρ' × xSt)} {k : ρ' → xSt → Option (ρ × xSt)} (hd : decode M.2.1 pc = .ok (.invokevirtual index, 3)) (hl : x_VL M.1 index y M' n) (hc : CON κ' y M' b h' sh (.ref i :: av) σ oc) (he : sh[i]? = some (.inr (ci, fs))) (hcl : CL[ci]? = some q) (hq : q.1 = y.cls) (hh : Nat.ble (h' + 1) h = true) (hn : av.length = n) (hw : Nat.ble ((S.map fun v => v.category).sum) 8 = true)
    (kk : ∀ r σ1, XP κ b M h sh (pc + 3) L ((κ' r).toList ++ S) σ1 (k r σ1)) : XP κ b M h sh pc L (av.reverse ++ .ref i :: S) σ (bnd oc k) := by
  cases ho : oc with
  | none => exact x_none
  | some q =>
    obtain ⟨r1, σ1⟩ := q
    show XP κ b M h sh pc L (av.reverse ++ .ref i :: S) σ (k r1 σ1)
    have hcn := hc r1 σ1 ho
    intro r σ' ho p l e s m args below meth c D ad cI A hC hK hD hA hE H locs ls hP hS hL
    obtain ⟨⟨w1, w2, w5, w3, w4⟩, hd3, hm⟩ := hl
    have hfr := x_free hD hS hA
    have hst : (av.reverse ++ .ref i :: S).map (x_v ad) = (av.map (x_v ad)).reverse ++ .ref (ad i) :: S.map (x_v ad) := by rw [List.map_append, List.map_reverse]; rfl
    rw [hst]
    refine x_run (A := A) (va_runV (nL := M.2.2.1) (C := y.cls) (b := ad i) (As := av.map (x_v ad)) (rest := S.map (x_v ad)) (own := M.1) (Ts := xT) ⟨hC.1, hC.2.1, hC.2.2.2.1, hC.2.2.2.2.1, hC.2.2.2.2.2.2⟩ (hcn l D ad cI H.size) (cwV n hC.2.2.2.2.2.2 (x_GoodIn ?_) rfl rfl rfl ⟨rfl, hd3⟩ (x_room (Nat.le_of_ble_eq_true hh) hm)) ⟨x_B_blind _ _ _ _ _ _ _ _, hq ▸ va_recv hK hP hcl (x_w_at he), fun U hU hWm => ⟨rfl, by rw [hU], by rw [hU]; exact hP, va_K.moved hWm.alike hK, hD.weaken (fun _ _ _ _ => trivial), by rw [hU]; exact hE.go hWm hS.2.1 hfr⟩⟩ rfl (by rw [List.length_map]; exact hn) hL.1 rfl (by show 2 * 0 + _ ≤ 8; rw [x_sum]; have := Nat.le_of_ble_eq_true hw; omega) hd ⟨Nat.le_refl _, Nat.le_refl _⟩) hS (fun q _ h => hfr q h) hfr (fun H1 locs1 hP1 hS1 => ?_)
    · intro w hw
      simp only [wsV, List.mem_append, List.mem_cons, List.not_mem_nil, or_false] at hw
      rcases hw with (rfl | rfl | rfl | rfl) | rfl | hw
      · exact w1
      · exact w2
      · exact w5
      · exact w3
      · exact w4
      · exact hw
    · have h9 := kk r1 σ1 r σ' ho p l e s m args below meth c D ad cI A hC hK (x_D hD) hA hE H1 locs1 ls hP1 hS1 hL
      rw [List.map_append] at h9
      cases hk9 : κ' r1 with
      | none => rw [hk9] at h9; exact h9
      | some v => rw [hk9] at h9; exact h9
/-- a method's contract out of its walk -/
theorem x_con {y : MethodName} {av : List Value} (hy : plainName y.cls = true) (ho : M.1 = y.cls) (hn : Nat.ble (lg_sl (av.map fun v => v)).length M.2.2.1 = true) (hL : x_ent av ++ List.replicate (M.2.2.1 - (x_ent av).length) none = L) (k : XP κ b M h sh 0 L [] σ o) : CON κ y M b h sh av σ o := by
  intro r σ' hor l D ad cI sz
  refine Met.ofW (cc := M.2.1) (maxL := M.2.2.1) (ret := M.2.2.2) hy rfl ?_
  intro p e s m args below meth c s₁ B hml hv
  obtain ⟨rfl, hsz, hP, hK, hD0, hE⟩ := hv
  have hts := atoms_spec (ws := (.code y M.2.1 M.2.2.1 M.2.2.2 :: xT)) B.pre
  have hown : s.vm.findClass y.cls = some m.cls := findClass_of_methodNamed B.named
  subst hsz
  have hD := hD0.self (sz := s.heap.size)
  have hlen : ∀ av : List Value, (lg_sl (av.map (x_v ad))).length = (lg_sl (av.map fun v => v)).length := by
    intro av
    induction av with
    | nil => rfl
    | cons v av ih => simp only [lg_sl, List.map_cons, List.flatMap_cons, List.length_append, x_v_cat] at ih ⊢; rw [ih]; split <;> rfl
  have hl := lv_entry (av.map (x_v ad)) (n := M.2.2.1) (by rw [hlen]; exact Nat.le_of_ble_eq_true hn)
  rw [lg_entry_eq]
  generalize (lg_sl (av.map (x_v ad)) ++ List.replicate (M.2.2.1 - (lg_sl (av.map (x_v ad))).length) Slot.unset).toArray = ls at hl ⊢
  refine k r σ' hor p l e s m _ below meth c D ad cI (va_A (x_w ad cI sh σ) s.heap.size) ⟨B.exec, B.bytes, B.returns, hml, ho ▸ hown, B.notSynchronized, fun w hw => hts w (List.mem_cons_of_mem _ hw)⟩ hK hD (fun q h => Or.inr h) hE s.heap [] ls hP va_S.rf ⟨hl.1, hl.2.1, fun i v hi => ?_⟩
  rw [← hL] at hi
  have hi2 : (x_ent av)[i]? = some (some v) := by
    by_cases hlt : i < (x_ent av).length
    · rwa [List.getElem?_append_left hlt] at hi
    · rw [List.getElem?_append_right (Nat.not_lt.mp hlt), List.getElem?_replicate] at hi
      split at hi <;> simp at hi
  have h3 := hl.2.2 _ (x_ent_args ad av 0 i v hi2)
  simpa using h3

theorem x_callS0i {y : MethodName} {M' : xM} {h' index : Nat} {oc : Option (Int32 × xSt)} {k : Int32 → xSt → Option (ρ × xSt)} (hd : decode M.2.1 pc = .ok (.invokestatic index, 3)) (hl : x_SL M.1 index y M' 0) (hc : CON κi y M' b h' sh [] σ oc) (hh : Nat.ble (h' + 1) h = true) (hw : Nat.ble ((S.map fun v => v.category).sum) 8 = true) (kk : ∀ (r : Int32) (σ1 : xSt), XP κ b M h sh (pc + 3) L (.int r :: S) σ1 (k r σ1)) : XP κ b M h sh pc L (S) σ (bnd oc k) := x_callS (av := []) hd hl hc hh rfl hw kk
theorem x_callS0v {y : MethodName} {M' : xM} {h' index : Nat} {oc : Option (Unit × xSt)} {k : Unit → xSt → Option (ρ × xSt)} (hd : decode M.2.1 pc = .ok (.invokestatic index, 3)) (hl : x_SL M.1 index y M' 0) (hc : CON κv y M' b h' sh [] σ oc) (hh : Nat.ble (h' + 1) h = true) (hw : Nat.ble ((S.map fun v => v.category).sum) 8 = true) (kk : ∀ (r : Unit) (σ1 : xSt), XP κ b M h sh (pc + 3) L S σ1 (k r σ1)) : XP κ b M h sh pc L (S) σ (bnd oc k) := x_callS (av := []) hd hl hc hh rfl hw kk
theorem x_callS0l {y : MethodName} {M' : xM} {h' index : Nat} {oc : Option (Int64 × xSt)} {k : Int64 → xSt → Option (ρ × xSt)} (hd : decode M.2.1 pc = .ok (.invokestatic index, 3)) (hl : x_SL M.1 index y M' 0) (hc : CON κl y M' b h' sh [] σ oc) (hh : Nat.ble (h' + 1) h = true) (hw : Nat.ble ((S.map fun v => v.category).sum) 8 = true) (kk : ∀ (r : Int64) (σ1 : xSt), XP κ b M h sh (pc + 3) L (.long r :: S) σ1 (k r σ1)) : XP κ b M h sh pc L (S) σ (bnd oc k) := x_callS (av := []) hd hl hc hh rfl hw kk
theorem x_callS0a {y : MethodName} {M' : xM} {h' index : Nat} {oc : Option (Nat × xSt)} {k : Nat → xSt → Option (ρ × xSt)} (hd : decode M.2.1 pc = .ok (.invokestatic index, 3)) (hl : x_SL M.1 index y M' 0) (hc : CON κa y M' b h' sh [] σ oc) (hh : Nat.ble (h' + 1) h = true) (hw : Nat.ble ((S.map fun v => v.category).sum) 8 = true) (kk : ∀ (r : Nat) (σ1 : xSt), XP κ b M h sh (pc + 3) L (.ref r :: S) σ1 (k r σ1)) : XP κ b M h sh pc L (S) σ (bnd oc k) := x_callS (av := []) hd hl hc hh rfl hw kk
theorem x_callS1i {y : MethodName} {M' : xM} {h' index : Nat} {a1 : Value} {oc : Option (Int32 × xSt)} {k : Int32 → xSt → Option (ρ × xSt)} (hd : decode M.2.1 pc = .ok (.invokestatic index, 3)) (hl : x_SL M.1 index y M' 1) (hc : CON κi y M' b h' sh [a1] σ oc) (hh : Nat.ble (h' + 1) h = true) (hw : Nat.ble ((S.map fun v => v.category).sum) 8 = true) (kk : ∀ (r : Int32) (σ1 : xSt), XP κ b M h sh (pc + 3) L (.int r :: S) σ1 (k r σ1)) : XP κ b M h sh pc L (a1 :: S) σ (bnd oc k) := x_callS (av := [a1]) hd hl hc hh rfl hw kk
theorem x_callS1v {y : MethodName} {M' : xM} {h' index : Nat} {a1 : Value} {oc : Option (Unit × xSt)} {k : Unit → xSt → Option (ρ × xSt)} (hd : decode M.2.1 pc = .ok (.invokestatic index, 3)) (hl : x_SL M.1 index y M' 1) (hc : CON κv y M' b h' sh [a1] σ oc) (hh : Nat.ble (h' + 1) h = true) (hw : Nat.ble ((S.map fun v => v.category).sum) 8 = true) (kk : ∀ (r : Unit) (σ1 : xSt), XP κ b M h sh (pc + 3) L S σ1 (k r σ1)) : XP κ b M h sh pc L (a1 :: S) σ (bnd oc k) := x_callS (av := [a1]) hd hl hc hh rfl hw kk
theorem x_callS1l {y : MethodName} {M' : xM} {h' index : Nat} {a1 : Value} {oc : Option (Int64 × xSt)} {k : Int64 → xSt → Option (ρ × xSt)} (hd : decode M.2.1 pc = .ok (.invokestatic index, 3)) (hl : x_SL M.1 index y M' 1) (hc : CON κl y M' b h' sh [a1] σ oc) (hh : Nat.ble (h' + 1) h = true) (hw : Nat.ble ((S.map fun v => v.category).sum) 8 = true) (kk : ∀ (r : Int64) (σ1 : xSt), XP κ b M h sh (pc + 3) L (.long r :: S) σ1 (k r σ1)) : XP κ b M h sh pc L (a1 :: S) σ (bnd oc k) := x_callS (av := [a1]) hd hl hc hh rfl hw kk
theorem x_callS1a {y : MethodName} {M' : xM} {h' index : Nat} {a1 : Value} {oc : Option (Nat × xSt)} {k : Nat → xSt → Option (ρ × xSt)} (hd : decode M.2.1 pc = .ok (.invokestatic index, 3)) (hl : x_SL M.1 index y M' 1) (hc : CON κa y M' b h' sh [a1] σ oc) (hh : Nat.ble (h' + 1) h = true) (hw : Nat.ble ((S.map fun v => v.category).sum) 8 = true) (kk : ∀ (r : Nat) (σ1 : xSt), XP κ b M h sh (pc + 3) L (.ref r :: S) σ1 (k r σ1)) : XP κ b M h sh pc L (a1 :: S) σ (bnd oc k) := x_callS (av := [a1]) hd hl hc hh rfl hw kk
theorem x_callS2i {y : MethodName} {M' : xM} {h' index : Nat} {a1 a2 : Value} {oc : Option (Int32 × xSt)} {k : Int32 → xSt → Option (ρ × xSt)} (hd : decode M.2.1 pc = .ok (.invokestatic index, 3)) (hl : x_SL M.1 index y M' 2) (hc : CON κi y M' b h' sh [a1, a2] σ oc) (hh : Nat.ble (h' + 1) h = true) (hw : Nat.ble ((S.map fun v => v.category).sum) 8 = true) (kk : ∀ (r : Int32) (σ1 : xSt), XP κ b M h sh (pc + 3) L (.int r :: S) σ1 (k r σ1)) : XP κ b M h sh pc L (a2 :: a1 :: S) σ (bnd oc k) := x_callS (av := [a1, a2]) hd hl hc hh rfl hw kk
theorem x_callS2v {y : MethodName} {M' : xM} {h' index : Nat} {a1 a2 : Value} {oc : Option (Unit × xSt)} {k : Unit → xSt → Option (ρ × xSt)} (hd : decode M.2.1 pc = .ok (.invokestatic index, 3)) (hl : x_SL M.1 index y M' 2) (hc : CON κv y M' b h' sh [a1, a2] σ oc) (hh : Nat.ble (h' + 1) h = true) (hw : Nat.ble ((S.map fun v => v.category).sum) 8 = true) (kk : ∀ (r : Unit) (σ1 : xSt), XP κ b M h sh (pc + 3) L S σ1 (k r σ1)) : XP κ b M h sh pc L (a2 :: a1 :: S) σ (bnd oc k) := x_callS (av := [a1, a2]) hd hl hc hh rfl hw kk
theorem x_callS2l {y : MethodName} {M' : xM} {h' index : Nat} {a1 a2 : Value} {oc : Option (Int64 × xSt)} {k : Int64 → xSt → Option (ρ × xSt)} (hd : decode M.2.1 pc = .ok (.invokestatic index, 3)) (hl : x_SL M.1 index y M' 2) (hc : CON κl y M' b h' sh [a1, a2] σ oc) (hh : Nat.ble (h' + 1) h = true) (hw : Nat.ble ((S.map fun v => v.category).sum) 8 = true) (kk : ∀ (r : Int64) (σ1 : xSt), XP κ b M h sh (pc + 3) L (.long r :: S) σ1 (k r σ1)) : XP κ b M h sh pc L (a2 :: a1 :: S) σ (bnd oc k) := x_callS (av := [a1, a2]) hd hl hc hh rfl hw kk
theorem x_callS2a {y : MethodName} {M' : xM} {h' index : Nat} {a1 a2 : Value} {oc : Option (Nat × xSt)} {k : Nat → xSt → Option (ρ × xSt)} (hd : decode M.2.1 pc = .ok (.invokestatic index, 3)) (hl : x_SL M.1 index y M' 2) (hc : CON κa y M' b h' sh [a1, a2] σ oc) (hh : Nat.ble (h' + 1) h = true) (hw : Nat.ble ((S.map fun v => v.category).sum) 8 = true) (kk : ∀ (r : Nat) (σ1 : xSt), XP κ b M h sh (pc + 3) L (.ref r :: S) σ1 (k r σ1)) : XP κ b M h sh pc L (a2 :: a1 :: S) σ (bnd oc k) := x_callS (av := [a1, a2]) hd hl hc hh rfl hw kk
theorem x_callS3i {y : MethodName} {M' : xM} {h' index : Nat} {a1 a2 a3 : Value} {oc : Option (Int32 × xSt)} {k : Int32 → xSt → Option (ρ × xSt)} (hd : decode M.2.1 pc = .ok (.invokestatic index, 3)) (hl : x_SL M.1 index y M' 3) (hc : CON κi y M' b h' sh [a1, a2, a3] σ oc) (hh : Nat.ble (h' + 1) h = true) (hw : Nat.ble ((S.map fun v => v.category).sum) 8 = true) (kk : ∀ (r : Int32) (σ1 : xSt), XP κ b M h sh (pc + 3) L (.int r :: S) σ1 (k r σ1)) : XP κ b M h sh pc L (a3 :: a2 :: a1 :: S) σ (bnd oc k) := x_callS (av := [a1, a2, a3]) hd hl hc hh rfl hw kk
theorem x_callS3v {y : MethodName} {M' : xM} {h' index : Nat} {a1 a2 a3 : Value} {oc : Option (Unit × xSt)} {k : Unit → xSt → Option (ρ × xSt)} (hd : decode M.2.1 pc = .ok (.invokestatic index, 3)) (hl : x_SL M.1 index y M' 3) (hc : CON κv y M' b h' sh [a1, a2, a3] σ oc) (hh : Nat.ble (h' + 1) h = true) (hw : Nat.ble ((S.map fun v => v.category).sum) 8 = true) (kk : ∀ (r : Unit) (σ1 : xSt), XP κ b M h sh (pc + 3) L S σ1 (k r σ1)) : XP κ b M h sh pc L (a3 :: a2 :: a1 :: S) σ (bnd oc k) := x_callS (av := [a1, a2, a3]) hd hl hc hh rfl hw kk
theorem x_callS3l {y : MethodName} {M' : xM} {h' index : Nat} {a1 a2 a3 : Value} {oc : Option (Int64 × xSt)} {k : Int64 → xSt → Option (ρ × xSt)} (hd : decode M.2.1 pc = .ok (.invokestatic index, 3)) (hl : x_SL M.1 index y M' 3) (hc : CON κl y M' b h' sh [a1, a2, a3] σ oc) (hh : Nat.ble (h' + 1) h = true) (hw : Nat.ble ((S.map fun v => v.category).sum) 8 = true) (kk : ∀ (r : Int64) (σ1 : xSt), XP κ b M h sh (pc + 3) L (.long r :: S) σ1 (k r σ1)) : XP κ b M h sh pc L (a3 :: a2 :: a1 :: S) σ (bnd oc k) := x_callS (av := [a1, a2, a3]) hd hl hc hh rfl hw kk
theorem x_callS3a {y : MethodName} {M' : xM} {h' index : Nat} {a1 a2 a3 : Value} {oc : Option (Nat × xSt)} {k : Nat → xSt → Option (ρ × xSt)} (hd : decode M.2.1 pc = .ok (.invokestatic index, 3)) (hl : x_SL M.1 index y M' 3) (hc : CON κa y M' b h' sh [a1, a2, a3] σ oc) (hh : Nat.ble (h' + 1) h = true) (hw : Nat.ble ((S.map fun v => v.category).sum) 8 = true) (kk : ∀ (r : Nat) (σ1 : xSt), XP κ b M h sh (pc + 3) L (.ref r :: S) σ1 (k r σ1)) : XP κ b M h sh pc L (a3 :: a2 :: a1 :: S) σ (bnd oc k) := x_callS (av := [a1, a2, a3]) hd hl hc hh rfl hw kk
theorem x_callS4i {y : MethodName} {M' : xM} {h' index : Nat} {a1 a2 a3 a4 : Value} {oc : Option (Int32 × xSt)} {k : Int32 → xSt → Option (ρ × xSt)} (hd : decode M.2.1 pc = .ok (.invokestatic index, 3)) (hl : x_SL M.1 index y M' 4) (hc : CON κi y M' b h' sh [a1, a2, a3, a4] σ oc) (hh : Nat.ble (h' + 1) h = true) (hw : Nat.ble ((S.map fun v => v.category).sum) 8 = true) (kk : ∀ (r : Int32) (σ1 : xSt), XP κ b M h sh (pc + 3) L (.int r :: S) σ1 (k r σ1)) : XP κ b M h sh pc L (a4 :: a3 :: a2 :: a1 :: S) σ (bnd oc k) := x_callS (av := [a1, a2, a3, a4]) hd hl hc hh rfl hw kk
theorem x_callS4v {y : MethodName} {M' : xM} {h' index : Nat} {a1 a2 a3 a4 : Value} {oc : Option (Unit × xSt)} {k : Unit → xSt → Option (ρ × xSt)} (hd : decode M.2.1 pc = .ok (.invokestatic index, 3)) (hl : x_SL M.1 index y M' 4) (hc : CON κv y M' b h' sh [a1, a2, a3, a4] σ oc) (hh : Nat.ble (h' + 1) h = true) (hw : Nat.ble ((S.map fun v => v.category).sum) 8 = true) (kk : ∀ (r : Unit) (σ1 : xSt), XP κ b M h sh (pc + 3) L S σ1 (k r σ1)) : XP κ b M h sh pc L (a4 :: a3 :: a2 :: a1 :: S) σ (bnd oc k) := x_callS (av := [a1, a2, a3, a4]) hd hl hc hh rfl hw kk
theorem x_callS5i {y : MethodName} {M' : xM} {h' index : Nat} {a1 a2 a3 a4 a5 : Value} {oc : Option (Int32 × xSt)} {k : Int32 → xSt → Option (ρ × xSt)} (hd : decode M.2.1 pc = .ok (.invokestatic index, 3)) (hl : x_SL M.1 index y M' 5) (hc : CON κi y M' b h' sh [a1, a2, a3, a4, a5] σ oc) (hh : Nat.ble (h' + 1) h = true) (hw : Nat.ble ((S.map fun v => v.category).sum) 8 = true) (kk : ∀ (r : Int32) (σ1 : xSt), XP κ b M h sh (pc + 3) L (.int r :: S) σ1 (k r σ1)) : XP κ b M h sh pc L (a5 :: a4 :: a3 :: a2 :: a1 :: S) σ (bnd oc k) := x_callS (av := [a1, a2, a3, a4, a5]) hd hl hc hh rfl hw kk
theorem x_callS5v {y : MethodName} {M' : xM} {h' index : Nat} {a1 a2 a3 a4 a5 : Value} {oc : Option (Unit × xSt)} {k : Unit → xSt → Option (ρ × xSt)} (hd : decode M.2.1 pc = .ok (.invokestatic index, 3)) (hl : x_SL M.1 index y M' 5) (hc : CON κv y M' b h' sh [a1, a2, a3, a4, a5] σ oc) (hh : Nat.ble (h' + 1) h = true) (hw : Nat.ble ((S.map fun v => v.category).sum) 8 = true) (kk : ∀ (r : Unit) (σ1 : xSt), XP κ b M h sh (pc + 3) L S σ1 (k r σ1)) : XP κ b M h sh pc L (a5 :: a4 :: a3 :: a2 :: a1 :: S) σ (bnd oc k) := x_callS (av := [a1, a2, a3, a4, a5]) hd hl hc hh rfl hw kk
theorem x_callN1i {y : MethodName} {M' : xM} {h' index : Nat} {a1 : Value} {oc : Option (Int32 × xSt)} {k : Int32 → xSt → Option (ρ × xSt)} (hd : decode M.2.1 pc = .ok (.invokestatic index, 3)) (hl : x_SN M.1 index y M' 1) {host : String} (hl2 : ∀ (ad : Nat → Nat) (A : Nat → Prop) (U : State) (H : Heap), x_E b ad A U H → va_Nw (.methodLinkNest M.1 index y host) U) (hc : CON κi y M' b h' sh [a1] σ oc) (hh : Nat.ble (h' + 1) h = true) (hw : Nat.ble ((S.map fun v => v.category).sum) 8 = true) (kk : ∀ (r : Int32) (σ1 : xSt), XP κ b M h sh (pc + 3) L (.int r :: S) σ1 (k r σ1)) : XP κ b M h sh pc L (a1 :: S) σ (bnd oc k) := x_callN (av := [a1]) hd hl hl2 hc hh rfl hw kk
theorem x_callV0i {y : MethodName} {M' : xM} {h' index : Nat} {i ci : Nat} {q : vw_C} {fs : List (Option Nat × Bool)} {oc : Option (Int32 × xSt)} {k : Int32 → xSt → Option (ρ × xSt)} (hd : decode M.2.1 pc = .ok (.invokevirtual index, 3)) (hl : x_VL M.1 index y M' 0) (hc : CON κi y M' b h' sh [.ref i] σ oc) (he : sh[i]? = some (.inr (ci, fs))) (hcl : CL[ci]? = some q) (hq : q.1 = y.cls) (hh : Nat.ble (h' + 1) h = true) (hw : Nat.ble ((S.map fun v => v.category).sum) 8 = true) (kk : ∀ (r : Int32) (σ1 : xSt), XP κ b M h sh (pc + 3) L (.int r :: S) σ1 (k r σ1)) : XP κ b M h sh pc L (.ref i :: S) σ (bnd oc k) := x_callV (av := []) hd hl hc he hcl hq hh rfl hw kk
theorem x_callV0v {y : MethodName} {M' : xM} {h' index : Nat} {i ci : Nat} {q : vw_C} {fs : List (Option Nat × Bool)} {oc : Option (Unit × xSt)} {k : Unit → xSt → Option (ρ × xSt)} (hd : decode M.2.1 pc = .ok (.invokevirtual index, 3)) (hl : x_VL M.1 index y M' 0) (hc : CON κv y M' b h' sh [.ref i] σ oc) (he : sh[i]? = some (.inr (ci, fs))) (hcl : CL[ci]? = some q) (hq : q.1 = y.cls) (hh : Nat.ble (h' + 1) h = true) (hw : Nat.ble ((S.map fun v => v.category).sum) 8 = true) (kk : ∀ (r : Unit) (σ1 : xSt), XP κ b M h sh (pc + 3) L S σ1 (k r σ1)) : XP κ b M h sh pc L (.ref i :: S) σ (bnd oc k) := x_callV (av := []) hd hl hc he hcl hq hh rfl hw kk
theorem x_callV0l {y : MethodName} {M' : xM} {h' index : Nat} {i ci : Nat} {q : vw_C} {fs : List (Option Nat × Bool)} {oc : Option (Int64 × xSt)} {k : Int64 → xSt → Option (ρ × xSt)} (hd : decode M.2.1 pc = .ok (.invokevirtual index, 3)) (hl : x_VL M.1 index y M' 0) (hc : CON κl y M' b h' sh [.ref i] σ oc) (he : sh[i]? = some (.inr (ci, fs))) (hcl : CL[ci]? = some q) (hq : q.1 = y.cls) (hh : Nat.ble (h' + 1) h = true) (hw : Nat.ble ((S.map fun v => v.category).sum) 8 = true) (kk : ∀ (r : Int64) (σ1 : xSt), XP κ b M h sh (pc + 3) L (.long r :: S) σ1 (k r σ1)) : XP κ b M h sh pc L (.ref i :: S) σ (bnd oc k) := x_callV (av := []) hd hl hc he hcl hq hh rfl hw kk
theorem x_callV0a {y : MethodName} {M' : xM} {h' index : Nat} {i ci : Nat} {q : vw_C} {fs : List (Option Nat × Bool)} {oc : Option (Nat × xSt)} {k : Nat → xSt → Option (ρ × xSt)} (hd : decode M.2.1 pc = .ok (.invokevirtual index, 3)) (hl : x_VL M.1 index y M' 0) (hc : CON κa y M' b h' sh [.ref i] σ oc) (he : sh[i]? = some (.inr (ci, fs))) (hcl : CL[ci]? = some q) (hq : q.1 = y.cls) (hh : Nat.ble (h' + 1) h = true) (hw : Nat.ble ((S.map fun v => v.category).sum) 8 = true) (kk : ∀ (r : Nat) (σ1 : xSt), XP κ b M h sh (pc + 3) L (.ref r :: S) σ1 (k r σ1)) : XP κ b M h sh pc L (.ref i :: S) σ (bnd oc k) := x_callV (av := []) hd hl hc he hcl hq hh rfl hw kk
theorem x_callV1i {y : MethodName} {M' : xM} {h' index : Nat} {i ci : Nat} {q : vw_C} {fs : List (Option Nat × Bool)} {a1 : Value} {oc : Option (Int32 × xSt)} {k : Int32 → xSt → Option (ρ × xSt)} (hd : decode M.2.1 pc = .ok (.invokevirtual index, 3)) (hl : x_VL M.1 index y M' 1) (hc : CON κi y M' b h' sh [.ref i, a1] σ oc) (he : sh[i]? = some (.inr (ci, fs))) (hcl : CL[ci]? = some q) (hq : q.1 = y.cls) (hh : Nat.ble (h' + 1) h = true) (hw : Nat.ble ((S.map fun v => v.category).sum) 8 = true) (kk : ∀ (r : Int32) (σ1 : xSt), XP κ b M h sh (pc + 3) L (.int r :: S) σ1 (k r σ1)) : XP κ b M h sh pc L (a1 :: .ref i :: S) σ (bnd oc k) := x_callV (av := [a1]) hd hl hc he hcl hq hh rfl hw kk
theorem x_callV1v {y : MethodName} {M' : xM} {h' index : Nat} {i ci : Nat} {q : vw_C} {fs : List (Option Nat × Bool)} {a1 : Value} {oc : Option (Unit × xSt)} {k : Unit → xSt → Option (ρ × xSt)} (hd : decode M.2.1 pc = .ok (.invokevirtual index, 3)) (hl : x_VL M.1 index y M' 1) (hc : CON κv y M' b h' sh [.ref i, a1] σ oc) (he : sh[i]? = some (.inr (ci, fs))) (hcl : CL[ci]? = some q) (hq : q.1 = y.cls) (hh : Nat.ble (h' + 1) h = true) (hw : Nat.ble ((S.map fun v => v.category).sum) 8 = true) (kk : ∀ (r : Unit) (σ1 : xSt), XP κ b M h sh (pc + 3) L S σ1 (k r σ1)) : XP κ b M h sh pc L (a1 :: .ref i :: S) σ (bnd oc k) := x_callV (av := [a1]) hd hl hc he hcl hq hh rfl hw kk
theorem x_callV1l {y : MethodName} {M' : xM} {h' index : Nat} {i ci : Nat} {q : vw_C} {fs : List (Option Nat × Bool)} {a1 : Value} {oc : Option (Int64 × xSt)} {k : Int64 → xSt → Option (ρ × xSt)} (hd : decode M.2.1 pc = .ok (.invokevirtual index, 3)) (hl : x_VL M.1 index y M' 1) (hc : CON κl y M' b h' sh [.ref i, a1] σ oc) (he : sh[i]? = some (.inr (ci, fs))) (hcl : CL[ci]? = some q) (hq : q.1 = y.cls) (hh : Nat.ble (h' + 1) h = true) (hw : Nat.ble ((S.map fun v => v.category).sum) 8 = true) (kk : ∀ (r : Int64) (σ1 : xSt), XP κ b M h sh (pc + 3) L (.long r :: S) σ1 (k r σ1)) : XP κ b M h sh pc L (a1 :: .ref i :: S) σ (bnd oc k) := x_callV (av := [a1]) hd hl hc he hcl hq hh rfl hw kk
theorem x_callV1a {y : MethodName} {M' : xM} {h' index : Nat} {i ci : Nat} {q : vw_C} {fs : List (Option Nat × Bool)} {a1 : Value} {oc : Option (Nat × xSt)} {k : Nat → xSt → Option (ρ × xSt)} (hd : decode M.2.1 pc = .ok (.invokevirtual index, 3)) (hl : x_VL M.1 index y M' 1) (hc : CON κa y M' b h' sh [.ref i, a1] σ oc) (he : sh[i]? = some (.inr (ci, fs))) (hcl : CL[ci]? = some q) (hq : q.1 = y.cls) (hh : Nat.ble (h' + 1) h = true) (hw : Nat.ble ((S.map fun v => v.category).sum) 8 = true) (kk : ∀ (r : Nat) (σ1 : xSt), XP κ b M h sh (pc + 3) L (.ref r :: S) σ1 (k r σ1)) : XP κ b M h sh pc L (a1 :: .ref i :: S) σ (bnd oc k) := x_callV (av := [a1]) hd hl hc he hcl hq hh rfl hw kk
theorem x_callV2i {y : MethodName} {M' : xM} {h' index : Nat} {i ci : Nat} {q : vw_C} {fs : List (Option Nat × Bool)} {a1 a2 : Value} {oc : Option (Int32 × xSt)} {k : Int32 → xSt → Option (ρ × xSt)} (hd : decode M.2.1 pc = .ok (.invokevirtual index, 3)) (hl : x_VL M.1 index y M' 2) (hc : CON κi y M' b h' sh [.ref i, a1, a2] σ oc) (he : sh[i]? = some (.inr (ci, fs))) (hcl : CL[ci]? = some q) (hq : q.1 = y.cls) (hh : Nat.ble (h' + 1) h = true) (hw : Nat.ble ((S.map fun v => v.category).sum) 8 = true) (kk : ∀ (r : Int32) (σ1 : xSt), XP κ b M h sh (pc + 3) L (.int r :: S) σ1 (k r σ1)) : XP κ b M h sh pc L (a2 :: a1 :: .ref i :: S) σ (bnd oc k) := x_callV (av := [a1, a2]) hd hl hc he hcl hq hh rfl hw kk
theorem x_callV2v {y : MethodName} {M' : xM} {h' index : Nat} {i ci : Nat} {q : vw_C} {fs : List (Option Nat × Bool)} {a1 a2 : Value} {oc : Option (Unit × xSt)} {k : Unit → xSt → Option (ρ × xSt)} (hd : decode M.2.1 pc = .ok (.invokevirtual index, 3)) (hl : x_VL M.1 index y M' 2) (hc : CON κv y M' b h' sh [.ref i, a1, a2] σ oc) (he : sh[i]? = some (.inr (ci, fs))) (hcl : CL[ci]? = some q) (hq : q.1 = y.cls) (hh : Nat.ble (h' + 1) h = true) (hw : Nat.ble ((S.map fun v => v.category).sum) 8 = true) (kk : ∀ (r : Unit) (σ1 : xSt), XP κ b M h sh (pc + 3) L S σ1 (k r σ1)) : XP κ b M h sh pc L (a2 :: a1 :: .ref i :: S) σ (bnd oc k) := x_callV (av := [a1, a2]) hd hl hc he hcl hq hh rfl hw kk
theorem x_callV2l {y : MethodName} {M' : xM} {h' index : Nat} {i ci : Nat} {q : vw_C} {fs : List (Option Nat × Bool)} {a1 a2 : Value} {oc : Option (Int64 × xSt)} {k : Int64 → xSt → Option (ρ × xSt)} (hd : decode M.2.1 pc = .ok (.invokevirtual index, 3)) (hl : x_VL M.1 index y M' 2) (hc : CON κl y M' b h' sh [.ref i, a1, a2] σ oc) (he : sh[i]? = some (.inr (ci, fs))) (hcl : CL[ci]? = some q) (hq : q.1 = y.cls) (hh : Nat.ble (h' + 1) h = true) (hw : Nat.ble ((S.map fun v => v.category).sum) 8 = true) (kk : ∀ (r : Int64) (σ1 : xSt), XP κ b M h sh (pc + 3) L (.long r :: S) σ1 (k r σ1)) : XP κ b M h sh pc L (a2 :: a1 :: .ref i :: S) σ (bnd oc k) := x_callV (av := [a1, a2]) hd hl hc he hcl hq hh rfl hw kk
theorem x_callV2a {y : MethodName} {M' : xM} {h' index : Nat} {i ci : Nat} {q : vw_C} {fs : List (Option Nat × Bool)} {a1 a2 : Value} {oc : Option (Nat × xSt)} {k : Nat → xSt → Option (ρ × xSt)} (hd : decode M.2.1 pc = .ok (.invokevirtual index, 3)) (hl : x_VL M.1 index y M' 2) (hc : CON κa y M' b h' sh [.ref i, a1, a2] σ oc) (he : sh[i]? = some (.inr (ci, fs))) (hcl : CL[ci]? = some q) (hq : q.1 = y.cls) (hh : Nat.ble (h' + 1) h = true) (hw : Nat.ble ((S.map fun v => v.category).sum) 8 = true) (kk : ∀ (r : Nat) (σ1 : xSt), XP κ b M h sh (pc + 3) L (.ref r :: S) σ1 (k r σ1)) : XP κ b M h sh pc L (a2 :: a1 :: .ref i :: S) σ (bnd oc k) := x_callV (av := [a1, a2]) hd hl hc he hcl hq hh rfl hw kk
theorem x_callV3i {y : MethodName} {M' : xM} {h' index : Nat} {i ci : Nat} {q : vw_C} {fs : List (Option Nat × Bool)} {a1 a2 a3 : Value} {oc : Option (Int32 × xSt)} {k : Int32 → xSt → Option (ρ × xSt)} (hd : decode M.2.1 pc = .ok (.invokevirtual index, 3)) (hl : x_VL M.1 index y M' 3) (hc : CON κi y M' b h' sh [.ref i, a1, a2, a3] σ oc) (he : sh[i]? = some (.inr (ci, fs))) (hcl : CL[ci]? = some q) (hq : q.1 = y.cls) (hh : Nat.ble (h' + 1) h = true) (hw : Nat.ble ((S.map fun v => v.category).sum) 8 = true) (kk : ∀ (r : Int32) (σ1 : xSt), XP κ b M h sh (pc + 3) L (.int r :: S) σ1 (k r σ1)) : XP κ b M h sh pc L (a3 :: a2 :: a1 :: .ref i :: S) σ (bnd oc k) := x_callV (av := [a1, a2, a3]) hd hl hc he hcl hq hh rfl hw kk
theorem x_callV3v {y : MethodName} {M' : xM} {h' index : Nat} {i ci : Nat} {q : vw_C} {fs : List (Option Nat × Bool)} {a1 a2 a3 : Value} {oc : Option (Unit × xSt)} {k : Unit → xSt → Option (ρ × xSt)} (hd : decode M.2.1 pc = .ok (.invokevirtual index, 3)) (hl : x_VL M.1 index y M' 3) (hc : CON κv y M' b h' sh [.ref i, a1, a2, a3] σ oc) (he : sh[i]? = some (.inr (ci, fs))) (hcl : CL[ci]? = some q) (hq : q.1 = y.cls) (hh : Nat.ble (h' + 1) h = true) (hw : Nat.ble ((S.map fun v => v.category).sum) 8 = true) (kk : ∀ (r : Unit) (σ1 : xSt), XP κ b M h sh (pc + 3) L S σ1 (k r σ1)) : XP κ b M h sh pc L (a3 :: a2 :: a1 :: .ref i :: S) σ (bnd oc k) := x_callV (av := [a1, a2, a3]) hd hl hc he hcl hq hh rfl hw kk
theorem x_callV3l {y : MethodName} {M' : xM} {h' index : Nat} {i ci : Nat} {q : vw_C} {fs : List (Option Nat × Bool)} {a1 a2 a3 : Value} {oc : Option (Int64 × xSt)} {k : Int64 → xSt → Option (ρ × xSt)} (hd : decode M.2.1 pc = .ok (.invokevirtual index, 3)) (hl : x_VL M.1 index y M' 3) (hc : CON κl y M' b h' sh [.ref i, a1, a2, a3] σ oc) (he : sh[i]? = some (.inr (ci, fs))) (hcl : CL[ci]? = some q) (hq : q.1 = y.cls) (hh : Nat.ble (h' + 1) h = true) (hw : Nat.ble ((S.map fun v => v.category).sum) 8 = true) (kk : ∀ (r : Int64) (σ1 : xSt), XP κ b M h sh (pc + 3) L (.long r :: S) σ1 (k r σ1)) : XP κ b M h sh pc L (a3 :: a2 :: a1 :: .ref i :: S) σ (bnd oc k) := x_callV (av := [a1, a2, a3]) hd hl hc he hcl hq hh rfl hw kk
theorem x_callV3a {y : MethodName} {M' : xM} {h' index : Nat} {i ci : Nat} {q : vw_C} {fs : List (Option Nat × Bool)} {a1 a2 a3 : Value} {oc : Option (Nat × xSt)} {k : Nat → xSt → Option (ρ × xSt)} (hd : decode M.2.1 pc = .ok (.invokevirtual index, 3)) (hl : x_VL M.1 index y M' 3) (hc : CON κa y M' b h' sh [.ref i, a1, a2, a3] σ oc) (he : sh[i]? = some (.inr (ci, fs))) (hcl : CL[ci]? = some q) (hq : q.1 = y.cls) (hh : Nat.ble (h' + 1) h = true) (hw : Nat.ble ((S.map fun v => v.category).sum) 8 = true) (kk : ∀ (r : Nat) (σ1 : xSt), XP κ b M h sh (pc + 3) L (.ref r :: S) σ1 (k r σ1)) : XP κ b M h sh pc L (a3 :: a2 :: a1 :: .ref i :: S) σ (bnd oc k) := x_callV (av := [a1, a2, a3]) hd hl hc he hcl hq hh rfl hw kk
theorem x_callV4i {y : MethodName} {M' : xM} {h' index : Nat} {i ci : Nat} {q : vw_C} {fs : List (Option Nat × Bool)} {a1 a2 a3 a4 : Value} {oc : Option (Int32 × xSt)} {k : Int32 → xSt → Option (ρ × xSt)} (hd : decode M.2.1 pc = .ok (.invokevirtual index, 3)) (hl : x_VL M.1 index y M' 4) (hc : CON κi y M' b h' sh [.ref i, a1, a2, a3, a4] σ oc) (he : sh[i]? = some (.inr (ci, fs))) (hcl : CL[ci]? = some q) (hq : q.1 = y.cls) (hh : Nat.ble (h' + 1) h = true) (hw : Nat.ble ((S.map fun v => v.category).sum) 8 = true) (kk : ∀ (r : Int32) (σ1 : xSt), XP κ b M h sh (pc + 3) L (.int r :: S) σ1 (k r σ1)) : XP κ b M h sh pc L (a4 :: a3 :: a2 :: a1 :: .ref i :: S) σ (bnd oc k) := x_callV (av := [a1, a2, a3, a4]) hd hl hc he hcl hq hh rfl hw kk
theorem x_callV4v {y : MethodName} {M' : xM} {h' index : Nat} {i ci : Nat} {q : vw_C} {fs : List (Option Nat × Bool)} {a1 a2 a3 a4 : Value} {oc : Option (Unit × xSt)} {k : Unit → xSt → Option (ρ × xSt)} (hd : decode M.2.1 pc = .ok (.invokevirtual index, 3)) (hl : x_VL M.1 index y M' 4) (hc : CON κv y M' b h' sh [.ref i, a1, a2, a3, a4] σ oc) (he : sh[i]? = some (.inr (ci, fs))) (hcl : CL[ci]? = some q) (hq : q.1 = y.cls) (hh : Nat.ble (h' + 1) h = true) (hw : Nat.ble ((S.map fun v => v.category).sum) 8 = true) (kk : ∀ (r : Unit) (σ1 : xSt), XP κ b M h sh (pc + 3) L S σ1 (k r σ1)) : XP κ b M h sh pc L (a4 :: a3 :: a2 :: a1 :: .ref i :: S) σ (bnd oc k) := x_callV (av := [a1, a2, a3, a4]) hd hl hc he hcl hq hh rfl hw kk
theorem x_callV5i {y : MethodName} {M' : xM} {h' index : Nat} {i ci : Nat} {q : vw_C} {fs : List (Option Nat × Bool)} {a1 a2 a3 a4 a5 : Value} {oc : Option (Int32 × xSt)} {k : Int32 → xSt → Option (ρ × xSt)} (hd : decode M.2.1 pc = .ok (.invokevirtual index, 3)) (hl : x_VL M.1 index y M' 5) (hc : CON κi y M' b h' sh [.ref i, a1, a2, a3, a4, a5] σ oc) (he : sh[i]? = some (.inr (ci, fs))) (hcl : CL[ci]? = some q) (hq : q.1 = y.cls) (hh : Nat.ble (h' + 1) h = true) (hw : Nat.ble ((S.map fun v => v.category).sum) 8 = true) (kk : ∀ (r : Int32) (σ1 : xSt), XP κ b M h sh (pc + 3) L (.int r :: S) σ1 (k r σ1)) : XP κ b M h sh pc L (a5 :: a4 :: a3 :: a2 :: a1 :: .ref i :: S) σ (bnd oc k) := x_callV (av := [a1, a2, a3, a4, a5]) hd hl hc he hcl hq hh rfl hw kk
theorem x_callV5v {y : MethodName} {M' : xM} {h' index : Nat} {i ci : Nat} {q : vw_C} {fs : List (Option Nat × Bool)} {a1 a2 a3 a4 a5 : Value} {oc : Option (Unit × xSt)} {k : Unit → xSt → Option (ρ × xSt)} (hd : decode M.2.1 pc = .ok (.invokevirtual index, 3)) (hl : x_VL M.1 index y M' 5) (hc : CON κv y M' b h' sh [.ref i, a1, a2, a3, a4, a5] σ oc) (he : sh[i]? = some (.inr (ci, fs))) (hcl : CL[ci]? = some q) (hq : q.1 = y.cls) (hh : Nat.ble (h' + 1) h = true) (hw : Nat.ble ((S.map fun v => v.category).sum) 8 = true) (kk : ∀ (r : Unit) (σ1 : xSt), XP κ b M h sh (pc + 3) L S σ1 (k r σ1)) : XP κ b M h sh pc L (a5 :: a4 :: a3 :: a2 :: a1 :: .ref i :: S) σ (bnd oc k) := x_callV (av := [a1, a2, a3, a4, a5]) hd hl hc he hcl hq hh rfl hw kk
end XR
