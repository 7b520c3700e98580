/-! ===== the law: a judgement over the two pure states ===== -/
def lA (s : State) (q : Nat) : Prop := s.heap.size ≤ q
/-- what holds all the time -/
def LX (p : Program) (s : State) (m : MethodId) (meth : Method) (c : Code) (b L : Nat) (xs : Nat → Int32) (D : va_G) (cI : ClassId) (ac am : Nat → Nat) : Prop :=
  x_C m_law p s m #[Value.ref b] meth c ∧ va_K D CL [(cI, .int)] s ∧ (∀ σ τ, va_D (lA s) (x_w am cI shM τ ++ x_w ac cI shC σ)) ∧ (∀ σ τ, va_D (lA s) (x_w ac cI shC σ ++ x_w am cI shM τ)) ∧ x_E true ac (lA s) s s.heap ∧ va_X b L xs s s.heap ∧ b < s.heap.size ∧ L ≤ 2048
def LJ (p : Program) (l : Launch) (e : Env) (s : State) (m : MethodId) (below : List Frame) (meth : Method) (c : Code) (b : Nat) (D : va_G) (cI : ClassId) (ac am : Nat → Nat) (x3 : Int32) (pc : Nat) (S : List Value) (σ τ : xSt) : Prop :=
  ∀ (H : Heap) (locs : List Loc) (ls : Array Slot), va_P D CL (x_w ac cI shC σ) H → va_P D CL (x_w am cI shM τ) H → va_S (lA s) s.heap H locs → lv_has ls 4 [(0, .ref b), (1, .ref (ac 0)), (2, .ref (am 0)), (3, .int x3)] →
    W p l e room_1 s m #[Value.ref b] below meth c H locs 600000 7302250 (lw_Z below #[Value.ref b] s) (F0 m pc ls S)
section LAW
variable {p : Program} {l : Launch} {e : Env} {s : State} {m : MethodId} {below : List Frame} {meth : Method} {c : Code} {b L : Nat} {xs : Nat → Int32} {D : va_G} {cI : ClassId} {ac am : Nat → Nat} {x3 : Int32} {pc : Nat} {S : List Value} {σ τ : xSt}
theorem l_x (X : LX p s m meth c b L xs D cI ac am) (hd : decode code pc = .ok (.aload_n 1, 1)) (k : LJ p l e s m below meth c b D cI ac am x3 (pc + 1) (.ref (ac 0) :: S) σ τ) : LJ p l e s m below meth c b D cI ac am x3 pc S σ τ := by
  intro H locs ls h1 h2 hS hl
  exact lv_aload_n X.1.1 X.1.2.1 hd rfl (lv_at hl 1 rfl) (k H locs ls h1 h2 hS hl)
theorem l_m (X : LX p s m meth c b L xs D cI ac am) (hd : decode code pc = .ok (.aload_n 2, 1)) (k : LJ p l e s m below meth c b D cI ac am x3 (pc + 1) (.ref (am 0) :: S) σ τ) : LJ p l e s m below meth c b D cI ac am x3 pc S σ τ := by
  intro H locs ls h1 h2 hS hl
  exact lv_aload_n X.1.1 X.1.2.1 hd rfl (lv_at hl 2 rfl) (k H locs ls h1 h2 hS hl)
/-- script[i + k] -/
theorem l_arg (X : LX p s m meth c b L xs D cI ac am) {kk : Int} {v : Int32} (hv : Int32.ofInt kk = v) (hin : vp_in (x3 + v) L) (d0 : decode code pc = .ok (.aload_n 0, 1)) (d1 : decode code (pc + 1) = .ok (.iload_n 3, 1)) (d2 : decode code (pc + 2) = .ok (.iconst kk, 1)) (d3 : decode code (pc + 3) = .ok (.iadd, 1)) (d4 : decode code (pc + 4) = .ok (.iaload, 1)) (k : LJ p l e s m below meth c b D cI ac am x3 (pc + 5) (.int (xs (x3 + v).toNatClampNeg) :: S) σ τ) : LJ p l e s m below meth c b D cI ac am x3 pc S σ τ := by
  intro H locs ls h1 h2 hS hl
  obtain ⟨hC, hK, hD1, hD2, hE, hX, hbl, hL⟩ := X
  refine lv_aload_n hC.1 hC.2.1 d0 rfl (lv_at hl 0 rfl) ?_
  refine lv_iload_n hC.1 hC.2.1 d1 rfl (lv_at hl 3 rfl) ?_
  refine lv_iconst hC.1 hC.2.1 d2 hv ?_
  refine lv_iadd hC.1 hC.2.1 d3 ?_
  exact va_sld hC.1 hC.2.1 hX hbl (Nat.not_le.mpr hbl) hS hin d4 (k H locs ls h1 h2 hS hl)
theorem l_cC {ρ' : Type} {κ' : ρ' → Option Value} {y : MethodName} {M' : xM} {h' n index : Nat} {av : List Value} {r1 : ρ'} {σ1 : xSt} {oc : Option (ρ' × xSt)} (X : LX p s m meth c b L xs D cI ac am) (hd : decode code pc = .ok (.invokevirtual index, 3)) (hl : x_VL R_law index y M' n) (hc : CON κ' y M' true h' shC (.ref 0 :: av) σ oc) (ho : oc = some (r1, σ1)) (hq : RX6 = y.cls) (hh : Nat.ble h' 100 = true) (hn : av.length = n) (hav : av.map (x_v ac) = av) (hκ : (κ' r1).map (x_v ac) = κ' r1) (hw : Nat.ble ((S.map fun v => v.category).sum) 8 = true)
    (k : LJ p l e s m below meth c b D cI ac am x3 (pc + 3) ((κ' r1).toList ++ S) σ1 τ) : LJ p l e s m below meth c b D cI ac am x3 pc (av.reverse ++ .ref (ac 0) :: S) σ τ := by
  intro H locs ls h1 h2 hS hl9
  obtain ⟨hC, hK, hD1, hD2, hE, hX, hbl, hL⟩ := X
  have hh := Nat.le_of_ble_eq_true hh
  have K := k_call (R := room_1) (l := l) (e := e) (below := below) (cells := 600000) (slots := 7302250) (Q := lw_Z below #[Value.ref b] s) (ls := ls) (S := S) (ws := x_w am cI shM τ) (A := lA s) (M := m_law) hC hd hl hc ho (he := (rfl : shC[0]? = some _)) (hcl := (rfl : CL[6]? = some _)) hq ⟨by show h' + 1 ≤ 2048; omega, by show 8 + (45 + 11) + 64 * h' ≤ 84000; omega⟩ ⟨Nat.le_refl _, Nat.le_refl _⟩ hn hw hK (h2.app h1) (hD1 σ τ) hS (fun q h => h) hE hl9.1 (fun H1 locs1 hP1 hS1 => by
    rw [hκ]
    exact k H1 locs1 ls (xP_r hP1) (xP_l hP1) hS1 hl9)
  rw [hav] at K
  exact K
theorem l_cM {ρ' : Type} {κ' : ρ' → Option Value} {y : MethodName} {M' : xM} {h' n index : Nat} {av : List Value} {r1 : ρ'} {τ1 : xSt} {oc : Option (ρ' × xSt)} (X : LX p s m meth c b L xs D cI ac am) (hd : decode code pc = .ok (.invokevirtual index, 3)) (hl : x_VL R_law index y M' n) (hc : CON κ' y M' false h' shM (.ref 0 :: av) τ oc) (ho : oc = some (r1, τ1)) (hq : RX7 = y.cls) (hh : Nat.ble h' 100 = true) (hn : av.length = n) (hav : av.map (x_v am) = av) (hκ : (κ' r1).map (x_v am) = κ' r1) (hw : Nat.ble ((S.map fun v => v.category).sum) 8 = true)
    (k : LJ p l e s m below meth c b D cI ac am x3 (pc + 3) ((κ' r1).toList ++ S) σ τ1) : LJ p l e s m below meth c b D cI ac am x3 pc (av.reverse ++ .ref (am 0) :: S) σ τ := by
  intro H locs ls h1 h2 hS hl9
  obtain ⟨hC, hK, hD1, hD2, hE, hX, hbl, hL⟩ := X
  have hh := Nat.le_of_ble_eq_true hh
  have K := k_call (R := room_1) (l := l) (e := e) (below := below) (cells := 600000) (slots := 7302250) (Q := lw_Z below #[Value.ref b] s) (ls := ls) (S := S) (ws := x_w ac cI shC σ) (A := lA s) (M := m_law) hC hd hl hc ho (he := (rfl : shM[0]? = some _)) (hcl := (rfl : CL[7]? = some _)) hq ⟨by show h' + 1 ≤ 2048; omega, by show 8 + (45 + 11) + 64 * h' ≤ 84000; omega⟩ ⟨Nat.le_refl _, Nat.le_refl _⟩ hn hw hK (h1.app h2) (hD2 σ τ) hS (fun q h => h) (fun h => absurd h (by decide)) hl9.1 (fun H1 locs1 hP1 hS1 => by
    rw [hκ]
    exact k H1 locs1 ls (xP_l hP1) (xP_r hP1) hS1 hl9)
  rw [hav] at K
  exact K
theorem l_eq {r : Int32} {off : Int} (X : LX p s m meth c b L xs D cI ac am) (hd : decode code pc = .ok (.if_icmp .eq off, 3)) (ht : (pc : Int) + off = ((753 : Nat) : Int)) (k : LJ p l e s m below meth c b D cI ac am x3 753 S σ τ) : LJ p l e s m below meth c b D cI ac am x3 pc (.int r :: .int r :: S) σ τ := by
  intro H locs ls h1 h2 hS hl
  exact lv_icmp_eq (tgt := 753) X.1.1 X.1.2.1 hd ht (fun _ => k H locs ls h1 h2 hS hl) (fun h => absurd rfl h)
theorem l_leq {r : Int64} {off : Int} (X : LX p s m meth c b L xs D cI ac am) (d0 : decode code pc = .ok (.lcmp, 1)) (hd : decode code (pc + 1) = .ok (.ifCond .eq off, 3)) (ht : ((pc + 1 : Nat) : Int) + off = ((753 : Nat) : Int)) (k : LJ p l e s m below meth c b D cI ac am x3 753 S σ τ) : LJ p l e s m below meth c b D cI ac am x3 pc (.long r :: .long r :: S) σ τ := by
  intro H locs ls h1 h2 hS hl
  refine W.lcmp X.1.1 X.1.2.1 d0 ?_
  refine lv_if_eq (tgt := 753) X.1.1 X.1.2.1 hd ht (fun _ => k H locs ls h1 h2 hS hl) (fun h => absurd (by simp [lg_cmp]) h)
/-- x != 0 -/
theorem l_nz {v : Int32} {o1 o2 : Int} (X : LX p s m meth c b L xs D cI ac am) (d0 : decode code pc = .ok (.ifCond .eq o1, 3)) (t0 : (pc : Int) + o1 = ((pc + 7 : Nat) : Int)) (d1 : decode code (pc + 3) = .ok (.iconst 1, 1)) (d2 : decode code (pc + 4) = .ok (.goto o2, 3)) (t2 : ((pc + 4 : Nat) : Int) + o2 = ((pc + 8 : Nat) : Int)) (d3 : decode code (pc + 7) = .ok (.iconst 0, 1)) (k : LJ p l e s m below meth c b D cI ac am x3 (pc + 8) (.int (b2i (!decide (v = 0))) :: S) σ τ) : LJ p l e s m below meth c b D cI ac am x3 pc (.int v :: S) σ τ := by
  intro H locs ls h1 h2 hS hl
  have K := k H locs ls h1 h2 hS hl
  refine lv_if_eq (tgt := pc + 7) X.1.1 X.1.2.1 d0 t0 (fun h => ?_) (fun h => ?_)
  · refine lv_iconst (v := 0) X.1.1 X.1.2.1 d3 rfl ?_
    rw [decide_eq_true h] at K
    exact K
  · refine lv_iconst (v := 1) X.1.1 X.1.2.1 d1 rfl ?_
    refine lv_goto (tgt := pc + 8) X.1.1 X.1.2.1 d2 t2 ?_
    rw [decide_eq_false h] at K
    exact K
end LAW
