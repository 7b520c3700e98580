/-! ===== what constructors and the law stand on: worlds side by side, new objects, calls by contract ===== -/
theorem xP_l {D : va_G} {cl : List vw_C} {a b : va_W} {H : Heap} (h : va_P D cl (a ++ b) H) : va_P D cl a H := fun k q hk => h k q (by
  rw [List.getElem?_append_left (List.getElem?_eq_some_iff.mp hk).1]; exact hk)
theorem xP_r {D : va_G} {cl : List vw_C} {a b : va_W} {H : Heap} (h : va_P D cl (a ++ b) H) : va_P D cl b H := fun k q hk => h (a.length + k) q (by
  rw [List.getElem?_append_right (by omega), show a.length + k - a.length = k by omega]; exact hk)
theorem xD_r {A : Nat → Prop} {a b : va_W} (h : va_D A (a ++ b)) : va_D A b := by
  refine ⟨fun i j p q hp hq e => ?_, fun k q hk => ?_⟩
  · have := h.1 (a.length + i) (a.length + j) p q (by rw [List.getElem?_append_right (by omega), show a.length + i - a.length = i by omega]; exact hp) (by rw [List.getElem?_append_right (by omega), show a.length + j - a.length = j by omega]; exact hq) e
    omega
  · exact h.2 (a.length + k) q (by rw [List.getElem?_append_right (by omega), show a.length + k - a.length = k by omega]; exact hk)
theorem xD_l {A : Nat → Prop} {a b : va_W} (h : va_D A (a ++ b)) : va_D A a := by
  have hl : ∀ (i : Nat) (p : Nat × va_E), a[i]? = some p → (a ++ b)[i]? = some p := fun i p hp => by
    rw [List.getElem?_append_left (List.getElem?_eq_some_iff.mp hp).1]; exact hp
  exact ⟨fun i j p q hp hq e => h.1 i j p q (hl i p hp) (hl j q hq) e, fun k q hk => h.2 k q (hl k q hk)⟩
theorem xD_ne {A : Nat → Prop} {a b : va_W} (h : va_D A (a ++ b)) : ∀ (i j : Nat) (p q : Nat × va_E), a[i]? = some p → b[j]? = some q → p.1 ≠ q.1 := by
  intro i j p q hp hq e
  have hi := (List.getElem?_eq_some_iff.mp hp).1
  have := h.1 i (a.length + j) p q (by rw [List.getElem?_append_left hi]; exact hp) (by rw [List.getElem?_append_right (by omega), show a.length + j - a.length = j by omega]; exact hq) e
  omega
theorem k_join {A0 : Nat → Prop} {D : va_G} {cl : List vw_C} {ws wc w1 : va_W} {H H1 : Heap} (hP : va_P D cl (ws ++ wc) H) (hD : va_D A0 (ws ++ wc)) (hk : ∀ q : Nat, q < H.size → ¬ va_A wc H.size q → H1[q]? = H[q]?) (hF : ∀ q, va_A wc H.size q → A0 q) (hP1 : va_P D cl w1 H1) (hD1 : va_D (va_A wc H.size) w1) : va_P D cl (ws ++ w1) H1 ∧ va_D A0 (ws ++ w1) := by
  have ap : ∀ (k : Nat) (q : Nat × va_E), ws[k]? = some q → q.1 < H.size ∧ ¬ va_A wc H.size q.1 := by
    intro k q hq
    have hl := (xP_l hP k q hq).lt
    refine ⟨hl, fun h => ?_⟩
    rcases h with ⟨k2, e, h⟩ | h
    · exact xD_ne hD k k2 q (q.1, e) hq h rfl
    · omega
  refine ⟨va_P.app ((xP_l hP).kept (fun k q hq => hk q.1 (ap k q hq).1 (ap k q hq).2)) hP1, va_D.app (xD_l hD) (hD1.weaken (fun k q _ h => hF q.1 h)) (fun i j x y hx hy hxy => ?_)⟩
  exact (ap i x hx).2 (by rw [hxy]; exact hD1.2 j y hy)
/-! the contracts of constructors -/
def σ0 : xSt := (fun _ _ => 0, 0)
def x_rmK (h mc ms : Nat) : Room := { frames := h, cells := mc, slots := ms, locals := 64 * h }
def x_N (b : Bool) (U : State) : Prop := b = true → va_Nw (.methodLinkNest RX6 9 yX4_init "ChannelTracks") U ∧ va_Nw (.methodLinkNest RX6 18 yX0_init "ChannelTracks") U ∧ va_Nw (.methodLinkNest RX6 25 yX3_init "ChannelTracks") U ∧ va_Nw (.methodLinkNest RX6 35 yX2_init "ChannelTracks") U ∧ va_Nw (.methodLinkNest RX6 42 yX5_init "ChannelTracks") U
theorem x_N.go {b : Bool} {s U : State} (h : x_N b s) (hW : s.WarmedH U.vm) : x_N b U := fun hb => ⟨va_Nw.warmM hW (h hb).1, va_Nw.warmM hW (h hb).2.1, va_Nw.warmM hW (h hb).2.2.1, va_Nw.warmM hW (h hb).2.2.2.1, va_Nw.warmM hW (h hb).2.2.2.2⟩
theorem x_N.calling {b : Bool} {U : State} {g : JFrame} {mk : MethodId} {a : Array Value} (h : x_N b U) : x_N b (U.calling g mk a) := fun hb => ⟨va_Nw.same rfl (u := U) rfl (h hb).1, va_Nw.same rfl (u := U) rfl (h hb).2.1, va_Nw.same rfl (u := U) rfl (h hb).2.2.1, va_Nw.same rfl (u := U) rfl (h hb).2.2.2.1, va_Nw.same rfl (u := U) rfl (h hb).2.2.2.2⟩
theorem x_N.f {U : State} : x_N false U := fun h => absurd h (by decide)
def KB (b : Bool) (D : va_G) (cI : ClassId) (ci : Nat) (fs0 : List Value) (h0 sz : Nat) : State → Prop := fun U => U.heap.size = sz ∧ va_P D CL [(h0, .inr (ci, fs0))] U.heap ∧ va_K D CL [(cI, .int)] U ∧ va_D (fun _ => True) [(h0, .inr (ci, fs0))] ∧ x_N b U
def KQ (D : va_G) (cI : ClassId) (ci : Nat) (fs0 : List Value) (h0 sz : Nat) (sh : xSh) (σ : xSt) : Array Value → State → Outcome → State → Prop := fun _ st oc t => oc = .returned none ∧ (∃ ad : Nat → Nat, ad 0 = h0 ∧ va_P D CL (x_w ad cI sh σ) t.heap ∧ va_D (va_A [(h0, .inr (ci, fs0))] sz) (x_w ad cI sh σ)) ∧ va_F (va_A [(h0, .inr (ci, fs0))] sz) st t
def KC (b : Bool) (y : MethodName) (M : xM) (h mc ms ci : Nat) (fs0 : List Value) (sh : xSh) (σ : xSt) : Prop :=
  ∀ (l : Launch) (D : va_G) (cI : ClassId) (h0 sz : Nat), Met l y (.code y M.2.1 M.2.2.1 none :: xT) (x_rmK h mc ms) (va_Pc [.ref h0] (KB b D cI ci fs0 h0 sz)) (KQ D cI ci fs0 h0 sz sh σ) mc ms (va_A [(h0, .inr (ci, fs0))] sz)
theorem KB_blind (b : Bool) (D : va_G) (cI : ClassId) (ci : Nat) (fs0 : List Value) (h0 sz : Nat) (av : List Value) : FrameBlind (va_Pc av (KB b D cI ci fs0 h0 sz)) := by
  intro a U g mk q
  obtain ⟨q0, q1, qP, qK, qD, qE⟩ := q
  exact ⟨q0, q1, qP, va_K.moved (u := U) (U := U.calling g mk a) (Vm.Alike.refl U.vm) qK, qD, qE.calling⟩
/-- the words of a constructor that is called -/
def k_L (y : MethodName) (M : xM) : Prop := (Cond.instanceMethod y ∈ xT ∧ Cond.initialized y.cls ∈ xT ∧ Cond.code y M.2.1 M.2.2.1 none ∈ xT) ∧ y.name = "<init>" ∧ (y.cls ≠ "java/lang/invoke/MethodHandle" ∧ y.cls ≠ "java/lang/invoke/VarHandle" ∧ (parseMethodDescriptor y.desc).map (fun d => d.parameters.length) = some 0)
/-- the words of a class that is made -/
def k_C (own : String) (i1 ci N : Nat) (fs0 : List Value) : Prop := ∃ (C : String) (T : u_T) (ty : Nat → FieldType), CL[ci]? = some (C, T, N) ∧ (∀ w ∈ u_ws C T N, w ∈ xT) ∧ (∀ k, k < N → parseFieldDescriptor (T k).2.2.1 = some (ty k)) ∧ (∀ j, j < N → defaultValue (ty j) = vp_V fs0 j) ∧ Cond.classLink own i1 C ∈ xT ∧ Cond.instantiable C N ∈ xT ∧ Cond.initialized C ∈ xT
section KW
variable {p : Program} {l : Launch} {e : Env} {R : Room} {s : State} {m : MethodId} {args : Array Value} {below : List Frame} {meth : Method} {c : Code} {H : Heap} {locs : List Loc} {cells slots : Nat} {Q : State → Prop}
variable {M : xM} {pc : Nat} {ls : Array Slot} {S : List Value} {D : va_G} {cI : ClassId} {A : Nat → Prop} {ws : va_W}
theorem k_new {y : MethodName} {M' : xM} {b : Bool} {h mc ms ci N i1 i2 : Nat} {fs0 : List Value} {sh : xSh} {σ : xSt} (hC : x_C M p s m args meth c) (hc : KC b y M' h mc ms ci fs0 sh σ) (hN : x_N b s) (hk : k_C M.1 i1 ci N fs0) (hl : k_L y M') (hl2 : Cond.methodLink M.1 i2 y ∈ xT ∨ ∃ host, va_Nw (.methodLinkNest M.1 i2 y host) s)
    (hK : va_K D CL [(cI, .int)] s) (hP : va_P D CL ws H) (hD : va_D A ws) (hS : va_S A s.heap H locs) (hA : ∀ q, s.heap.size ≤ q → A q) (hls : ls.size = M.2.2.1) (hw : Nat.ble ((S.map fun v => v.category).sum + 1) 8 = true) (hR : h + 1 ≤ R.frames ∧ 8 + (M'.2.2.1 + 11) + 64 * h ≤ R.locals) (hcs : cells + 1 + mc ≤ R.cells ∧ slots + N + ms ≤ R.slots)
    (d1 : decode M.2.1 pc = .ok (.new i1, 3)) (d2 : decode M.2.1 (pc + 3) = .ok (.dup, 1)) (d3 : decode M.2.1 (pc + 4) = .ok (.invokespecial i2, 3))
    (kk : ∀ (ad : Nat → Nat) (H1 : Heap) (locs1 : List Loc), va_P D CL (ws ++ x_w ad cI sh σ) H1 → va_D A (ws ++ x_w ad cI sh σ) → va_S A s.heap H1 locs1 → W p l e R s m args below meth c H1 locs1 (cells + 1 + mc) (slots + N + ms) Q (F0 m (pc + 7) ls (.ref (ad 0) :: S))) : W p l e R s m args below meth c H locs cells slots Q (F0 m pc ls S) := by
  obtain ⟨C, T, ty, k1, k2, k3, k4, k5, k6, k7⟩ := hk
  obtain ⟨⟨l1, l2, l3⟩, l4, l5⟩ := hl
  have hts := hC.2.2.2.2.2.2
  have hw := Nat.le_of_ble_eq_true hw
  refine va_new hC.1 hC.2.1 hts k2 ty k3 hC.2.2.2.2.1 (hts _ k5) (hts _ k6) (hts _ k7) hK hP hD hS hA k1 k4 (by omega) (by omega) d1 (fun q H1 hP1 hD1 hS1 => ?_)
  refine lv_dup hC.1 hC.2.1 d2 rfl ?_
  have hPc := xP_r hP1
  have hDc := xD_r hD1
  have hfr : ∀ q', va_A [(q, .inr (ci, fs0))] H1.size q' → A q' := by
    rintro q' (⟨k, e, hk⟩ | hq)
    · exact hDc.2 k _ hk
    · exact hA q' (Nat.le_trans hS1.1 hq)
  have pre : PreS s H1 (va_Pc [.ref q] (KB b D cI ci fs0 q H1.size)) [.ref q] := ⟨KB_blind _ _ _ _ _ _ _ _, fun U hU hWm => ⟨rfl, by rw [hU], by rw [hU]; exact hPc, va_K.moved hWm.alike hK, hDc.weaken (fun _ _ _ _ => trivial), hN.go hWm⟩⟩
  have hrun : va_Run p l e R s m args below meth c H1 locs (cells + 1) (slots + N) mc ms (F0 m (pc + 4) ls (.ref q :: .ref q :: S)) (.ref q :: S) (KQ D cI ci fs0 q H1.size sh σ #[.ref q]) (va_A [(q, .inr (ci, fs0))] H1.size) := by
    rcases hl2 with hl2 | ⟨host, hl2⟩
    · exact va_runI (nL := M.2.2.1) (As := []) (rest := .ref q :: S) (own := M.1) (Ts := xT) ⟨hC.1, hC.2.1, hC.2.2.2.1, hC.2.2.2.2.1, hts⟩ (hc l D cI q H1.size) (cwI 0 hts (x_GoodIn (fun w hw => (List.mem_cons.mp hw).elim (fun e => e ▸ l3) id)) rfl rfl rfl (hts _ l2) (hts _ hl2) (hts _ l1) l4 l5 hR) pre rfl rfl hls rfl (by show 2 * 0 + (1 + (S.map fun v => v.category).sum) ≤ 8; omega) d3 hcs
    · exact va_runIN (nL := M.2.2.1) (As := []) (rest := .ref q :: S) (own := M.1) (Ts := xT) ⟨hC.1, hC.2.1, hC.2.2.2.1, hC.2.2.2.2.1, hts⟩ (hc l D cI q H1.size) ⟨va_cnB 0 hts (x_GoodIn (fun w hw => (List.mem_cons.mp hw).elim (fun e => e ▸ l3) id)) rfl rfl rfl hl2 (hts _ l2) l5 hR, l4, hts _ l1⟩ pre rfl rfl hls rfl (by show 2 * 0 + (1 + (S.map fun v => v.category).sum) ≤ 8; omega) d3 hcs
  intro T0 hT X
  obtain ⟨v, st₀, t, T', L, h0, X', hL, e1, e2, ⟨hv, ⟨ad, had, hp, hd⟩, hz, hkk⟩, st⟩ := hrun T0 hT X
  cases hv
  rw [h0] at hz hkk
  obtain ⟨hPj, hDj⟩ := k_join (H1 := T'.heap) hP1 hD1 (fun q' h1 h2 => by rw [e1]; exact hkk q' h1 h2) hfr (by rw [e1]; exact hp) hd
  have K := kk ad T'.heap (locs ++ L) hPj hDj ⟨Nat.le_trans hS1.1 (by rw [e1]; exact hz), fun q' h1 h2 => by
      rw [e1, hkk q' (Nat.lt_of_lt_of_le h1 hS1.1) (fun z => h2 (hfr q' z))]; exact hS1.2.1 q' h1 h2, fun q' hq => by
      rcases List.mem_append.mp hq with h | h
      · exact hS1.2.2 q' h
      · exact hfr _ (hL q' h)⟩
  rw [had] at K
  obtain ⟨t2, a1, b1⟩ := K T' rfl X'
  exact ⟨t2, st t2 a1, b1⟩
/-- a method's contract, called from anywhere -/
theorem k_call {ρ' : Type} {κ' : ρ' → Option Value} {y : MethodName} {M' : xM} {b : Bool} {h' n index i ci : Nat} {q : vw_C} {fs : List (Option Nat × Bool)} {av : List Value} {r1 : ρ'} {sh : xSh} {σ σ1 : xSt} {oc : Option (ρ' × xSt)} {ad : Nat → Nat} (hC : x_C M p s m args meth c) (hd : decode M.2.1 pc = .ok (.invokevirtual index, 3)) (hl : x_VL M.1 index y M' n) (hc : CON κ' y M' b h' sh (.ref i :: av) σ oc) (ho : oc = some (r1, σ1)) (he : sh[i]? = some (.inr (ci, fs))) (hcl : CL[ci]? = some q) (hq : q.1 = y.cls) (hR : h' + 1 ≤ R.frames ∧ 8 + (45 + 11) + 64 * h' ≤ R.locals) (hcs : cells ≤ R.cells ∧ slots ≤ R.slots) (hn : av.length = n) (hw : Nat.ble ((S.map fun v => v.category).sum) 8 = true)
    (hK : va_K D CL [(cI, .int)] s) (hP : va_P D CL (ws ++ x_w ad cI sh σ) H) (hD : va_D A (ws ++ x_w ad cI sh σ)) (hS : va_S A s.heap H locs) (hA : ∀ q, s.heap.size ≤ q → A q) (hE : x_E b ad A s s.heap) (hls : ls.size = M.2.2.1)
    (kk : ∀ (H1 : Heap) (locs1 : List Loc), va_P D CL (ws ++ x_w ad cI sh σ1) H1 → va_S A s.heap H1 locs1 → W p l e R s m args below meth c H1 locs1 cells slots Q (F0 m (pc + 3) ls (((κ' r1).map (x_v ad)).toList ++ S))) : W p l e R s m args below meth c H locs cells slots Q (F0 m pc ls ((av.map (x_v ad)).reverse ++ .ref (ad i) :: S)) := by
  have hcn := hc r1 σ1 ho
  obtain ⟨⟨w1, w2, w5, w3, w4⟩, hd3, hm⟩ := hl
  have hts := hC.2.2.2.2.2.2
  have hPc := xP_r hP
  have hDc := xD_r hD
  have hfr := x_free hDc hS hA
  have hw := Nat.le_of_ble_eq_true hw
  have hrun := va_runV (l := l) (e := e) (below := below) (meth := meth) (locs := locs) (cells := cells) (slots := slots) (g := F0 m pc ls ((av.map (x_v ad)).reverse ++ .ref (ad i) :: S)) (nL := M.2.2.1) (C := y.cls) (b := ad i) (As := av.map (x_v ad)) (rest := S) (own := M.1) (Ts := xT) ⟨hC.1, hC.2.1, hC.2.2.2.1, hC.2.2.2.2.1, hts⟩ (hcn l D ad cI H.size) (cwV (R := R) n hts (x_GoodIn (by
      intro w hw
      simp only [wsV, List.mem_append, List.mem_cons, List.not_mem_nil, or_false] at hw
      rcases hw with (rfl | rfl | rfl | rfl) | rfl | hw
      · exact w1
      · exact w2
      · exact w5
      · exact w3
      · exact w4
      · exact hw)) rfl rfl rfl ⟨rfl, hd3⟩ ⟨hR.1, by show 8 + (M'.2.2.1 + 11) + 64 * h' ≤ R.locals; omega⟩) ⟨x_B_blind _ _ _ _ _ _ _ _, hq ▸ va_recv hK hPc hcl (x_w_at he), fun U hU hWm => ⟨rfl, by rw [hU], by rw [hU]; exact hPc, va_K.moved hWm.alike hK, hDc.weaken (fun _ _ _ _ => trivial), by rw [hU]; exact hE.go hWm hS.2.1 hfr⟩⟩ rfl (by rw [List.length_map]; exact hn) hls rfl (by show 2 * 0 + _ ≤ 8; omega) hd hcs
  intro T hT X
  obtain ⟨v, st₀, t, T', L, h0, X', hL, e1, e2, ⟨hv, hp, hk, hz, hkk⟩, st⟩ := hrun T hT X
  cases hv
  rw [h0] at hz hkk
  obtain ⟨hPj, hDj⟩ := k_join (H1 := T'.heap) hP hD (fun q' h1 h2 => by rw [e1]; exact hkk q' h1 h2) hfr (by rw [e1]; exact hp) (x_D (σ' := σ1) hDc.self)
  obtain ⟨t2, a1, b1⟩ := kk T'.heap (locs ++ L) hPj ⟨Nat.le_trans hS.1 (by rw [e1]; exact hz), fun q' h1 h2 => by
      rw [e1, hkk q' (Nat.lt_of_lt_of_le h1 hS.1) (fun z => h2 (hfr q' z))]; exact hS.2.1 q' h1 h2, fun q' hq' => by
      rcases List.mem_append.mp hq' with h | h
      · exact hS.2.2 q' h
      · exact hfr _ (hL q' h)⟩ T' rfl X'
  exact ⟨t2, st t2 a1, b1⟩
/-- a final field of a class, as its constructor stores it -/
def x_FF (own : String) (index ci k : Nat) (ty : FieldType) : Prop := ∃ (C : String) (T : u_T) (N : Nat) (ty0 : Nat → FieldType), CL[ci]? = some (C, T, N) ∧ (∀ w ∈ u_ws C T N, w ∈ xT) ∧ k < N ∧ Cond.fieldLink own index (T k).1 (T k).2.1 (T k).2.2.1 ∈ xT ∧
  (∀ k, k < N → parseFieldDescriptor (T k).2.2.1 = some (ty0 k)) ∧ (∀ a, a < N → ∀ b, b < N → a ≠ b → (T a).2.1 ≠ (T b).2.1) ∧ (T k).2.2.2 = true ∧ parseFieldDescriptor (T k).2.2.1 = some ty ∧ (T k).1 = own
theorem k_put {index ci k h0 q : Nat} {fs : List Value} {ty : FieldType} {rest : va_W} (hC : x_C M p s m args meth c) (hin : meth.name = "<init>") (hl : x_FF M.1 index ci k ty) (hn : narrow ty (.ref q) = .ref q) (hf : fits ty (.ref q) = true) (hk : Nat.ble (k + 1) fs.length = true) (hK : va_K D CL [(cI, .int)] s) (hP : va_P D CL ((h0, .inr (ci, fs)) :: rest) H) (hD : va_D A ((h0, .inr (ci, fs)) :: rest)) (hS : va_S A s.heap H locs) (hd : decode M.2.1 pc = .ok (.putfield index, 3))
    (kk : ∀ (H1 : Heap) (locs1 : List Loc), va_P D CL ((h0, .inr (ci, fs.set k (.ref q))) :: rest) H1 → va_D A ((h0, .inr (ci, fs.set k (.ref q))) :: rest) → va_S A s.heap H1 locs1 → W p l e R s m args below meth c H1 locs1 cells slots Q (F0 m (pc + 3) ls S)) : W p l e R s m args below meth c H locs cells slots Q (F0 m pc ls (.ref q :: .ref h0 :: S)) := by
  obtain ⟨C, T, N, ty0, h1, h2, h3, h4, h5, h6, h7, h8, h9⟩ := hl
  have hts := hC.2.2.2.2.2.2
  exact va_putF hC.1 hC.2.1 hts h2 ty0 h5 h6 hC.2.2.2.2.1 hK hP hD hS 0 rfl h1 k h3 (hts _ h4) (fun _ h => h) h7 hin h9 h8 hn hf (Nat.le_of_ble_eq_true hk) hd (fun H1 locs1 hP1 hD1 hS1 => kk H1 locs1 hP1 hD1 hS1)
theorem arrI {cA : ClassId} (hK : va_K D CL ([(cI, .int)] ++ [(cA, .int)]) s) : cA = cI := by
  have h1 := (hK.2 0 (cI, .int) rfl).2
  have h2 := (hK.2 1 (cA, .int) rfl).2
  have h3 : some cA = some cI := (show s.vm.findClass ("[" ++ FieldType.int.toString) = some cA from h2).symm.trans (show s.vm.findClass ("[" ++ FieldType.int.toString) = some cI from h1)
  exact Option.some.inj h3
/-- this.f = new int[n] -/
theorem k_arr {index ci k h0 N' : Nat} {n : Int} {v : Int32} {fs : List Value} {rest : va_W} (hC : x_C M p s m args meth c) (hin : meth.name = "<init>") (hl : x_FF M.1 index ci k (.array .int)) (hk : Nat.ble (k + 1) fs.length = true) (hK : va_K D CL [(cI, .int)] s) (hP : va_P D CL ((h0, .inr (ci, fs)) :: rest) H) (hD : va_D A ((h0, .inr (ci, fs)) :: rest)) (hS : va_S A s.heap H locs) (hA : ∀ q, s.heap.size ≤ q → A q) (ha : Cond.arrayClass .int ∈ xT) (hl0 : ls[0]? = some (.val (.ref h0))) (hv : (Int8.ofInt n).toInt32 = v) (hv0 : ¬ v < 0) (hvN : v.toNatClampNeg = N') (hN : N' ≤ 1000) (hcs : cells + 1 ≤ R.cells ∧ slots + N' ≤ R.slots)
    (d0 : decode M.2.1 pc = .ok (.aload_n 0, 1)) (d1 : decode M.2.1 (pc + 1) = .ok (.bipush n, 2)) (d2 : decode M.2.1 (pc + 3) = .ok (.newarray .int, 2)) (d3 : decode M.2.1 (pc + 5) = .ok (.putfield index, 3))
    (kk : ∀ (q : Nat) (H1 : Heap) (locs1 : List Loc), va_P D CL ((h0, .inr (ci, fs.set k (.ref q))) :: (rest ++ [(q, .inl (cI, N', .inl (fun _ => 0)))])) H1 → va_D A ((h0, .inr (ci, fs.set k (.ref q))) :: (rest ++ [(q, .inl (cI, N', .inl (fun _ => 0)))])) → va_S A s.heap H1 locs1 → W p l e R s m args below meth c H1 locs1 (cells + 1) (slots + N') Q (F0 m (pc + 8) ls [])) : W p l e R s m args below meth c H locs cells slots Q (F0 m pc ls []) := by
  have hts := hC.2.2.2.2.2.2
  refine lv_aload_n hC.1 hC.2.1 d0 rfl hl0 ?_
  refine lv_bipush hC.1 hC.2.1 d1 hv ?_
  refine va_newa (atype := .int) (ty := .int) (a0 := (N', .inl (fun _ => 0))) hC.1 hC.2.1 (hts _ ha) rfl hK hP hD hS hA (fun cA => rfl) hv0 hvN (by show N' * 4 ≤ 536870912; omega) hcs.1 hcs.2 d2 (fun q cA H1 hK1 hP1 hD1 hS1 => ?_)
  have hcA := arrI hK1
  subst hcA
  exact k_put hC hin hl rfl rfl hk hK hP1 hD1 hS1 d3 (fun H2 locs2 hP2 hD2 hS2 => kk q H2 locs2 hP2 hD2 hS2)
/-- Object.<init> -/
theorem k_obj {idx h0 : Nat} (hC : x_C M p s m args meth c) (hw1 : Cond.methodLink M.1 idx Lib.objectInit ∈ xT) (hw2 : Cond.instanceMethod Lib.objectInit ∈ xT) (hw3 : Cond.code Lib.objectInit ⟨#[0xb1]⟩ 1 none ∈ xT) (hl0 : ls[0]? = some (.val (.ref h0))) (hls : ls.size = M.2.2.1) (hR : 1 ≤ R.frames ∧ 12 ≤ R.locals) (d0 : decode M.2.1 0 = .ok (.aload_n 0, 1)) (d1 : decode M.2.1 1 = .ok (.invokespecial idx, 3))
    (kk : W p l e R s m args below meth c H locs cells slots Q (F0 m 4 ls [])) : W p l e R s m args below meth c H locs cells slots Q (F0 m 0 ls []) := by
  have hts := hC.2.2.2.2.2.2
  refine lv_aload_n hC.1 hC.2.1 d0 rfl hl0 ?_
  refine W.objInit hC.1 hC.2.1 hC.2.2.2.2.1 (hts _ hw1) (hts _ hw2) (hts _ hw3) rfl (hls.trans hC.2.2.2.1.symm) rfl d1 hR.1 (by show 2 * 0 + 0 + 12 ≤ R.locals; exact hR.2) ?_
  exact W.eq (g2 := F0 m 4 ls []) rfl kk
end KW
/-- a constructor's contract out of its walk -/
theorem k_con {b : Bool} {y : MethodName} {M : xM} {h mc ms ci : Nat} {fs0 : List Value} {sh : xSh} {σ : xSt} (hy : plainName y.cls = true) (ho : M.1 = y.cls) (hn : y.name = "<init>") (hr : M.2.2.2 = none) (hl : M.2.2.1 = 1)
    (k : ∀ (p : Program) (l : Launch) (e : Env) (s : State) (m : MethodId) (args : Array Value) (below : List Frame) (meth : Method) (c : Code) (D : va_G) (cI : ClassId) (h0 : Nat) (A : Nat → Prop) (ls : Array Slot), x_C M p s m args meth c → meth.name = "<init>" → va_K D CL [(cI, .int)] s → va_P D CL [(h0, .inr (ci, fs0))] s.heap → va_D A [(h0, .inr (ci, fs0))] → va_S A s.heap s.heap [] → (∀ q, s.heap.size ≤ q → A q) → x_N b s → ls.size = M.2.2.1 → ls[0]? = some (.val (.ref h0)) →
      W p l e (x_rmK h mc ms) s m args below meth c s.heap [] 0 0 (MQ below (fun _ st oc t => oc = .returned none ∧ (∃ ad : Nat → Nat, ad 0 = h0 ∧ va_P D CL (x_w ad cI sh σ) t.heap ∧ va_D A (x_w ad cI sh σ)) ∧ va_F A st t) args s mc ms A) (F0 m 0 ls [])) : KC b y M h mc ms ci fs0 sh σ := by
  intro l D cI h0 sz
  refine Met.ofW (cc := M.2.1) (maxL := M.2.2.1) (ret := none) hy rfl ?_
  intro p e s m args below meth c s₁ B hml hv
  obtain ⟨rfl, hsz, hP, hK, hD0, hN⟩ := hv
  have hts := atoms_spec (ws := (.code y M.2.1 M.2.2.1 none :: xT)) B.pre
  have hown : s.vm.findClass y.cls = some m.cls := findClass_of_methodNamed B.named
  have hin : meth.name = y.name := (name_of_methodNamed B.named B.method).1
  subst hsz
  have hD := hD0.self (sz := s.heap.size)
  have hl9 := lv_entry ([.ref h0]) (n := M.2.2.1) (by rw [hl]; exact Nat.le_refl 1)
  rw [lg_entry_eq]
  generalize (lg_sl ([Value.ref h0]) ++ List.replicate (M.2.2.1 - (lg_sl ([Value.ref h0])).length) Slot.unset).toArray = ls at hl9 ⊢
  exact k p l e s m _ below meth c D cI h0 _ ls ⟨B.exec, B.bytes, B.returns.trans hr.symm, hml, by rw [ho]; exact hown, B.notSynchronized, fun w hw => hts w (List.mem_cons_of_mem _ hw)⟩ (hin.trans hn) hK hP hD va_S.rf (fun q h => Or.inr h) hN hl9.1 (hl9.2.2 (0, .ref h0) (by simp [lv_args]))
