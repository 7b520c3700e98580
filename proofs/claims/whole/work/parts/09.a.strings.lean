theorem x_ldcS {ρ : Type} {κ : ρ → Option Value} {M : xM} {h : Nat} {sh : xSh} {pc : Nat} {L : List (Option Value)} {S : List Value} {σ : xSt} {o : Option (ρ × xSt)} (k : Nat) {index : Nat} (hd : decode M.2.1 pc = .ok (.ldc index, 2)) (hM : M.1 = RX4) (hi : [52, 54, 56, 58, 60, 62].getD k 0 = index) (hk : k < 6) (kk : XP κ true M h sh (pc + 2) L (.ref (100 + k) :: S) σ o) : XP κ true M h sh pc L S σ o := by
  intro r σ' ho p l e s m args below meth c D ad cI A hC hK hD hA hE H locs ls hP hS hL
  have h1 := (hE rfl).1 k hk
  rw [hi] at h1
  exact va_ldcS hC.1 hC.2.1 (hM ▸ hC.2.2.2.2.1) h1 hd (kk r σ' ho p l e s m args below meth c D ad cI A hC hK hD hA hE H locs ls hP hS hL)
theorem dJ0_length_8abf5_0 : decode cJ0_length_8abf5 0 = .ok (.aload_n 0, 1) := by decide +kernel
theorem dJ0_length_8abf5_1 : decode cJ0_length_8abf5 1 = .ok (.getfield 9, 3) := by decide +kernel
theorem dJ0_length_8abf5_4 : decode cJ0_length_8abf5 4 = .ok (.arraylength, 1) := by decide +kernel
theorem dJ0_length_8abf5_5 : decode cJ0_length_8abf5 5 = .ok (.aload_n 0, 1) := by decide +kernel
theorem dJ0_length_8abf5_6 : decode cJ0_length_8abf5 6 = .ok (.invokevirtual 335, 3) := by decide +kernel
theorem dJ0_length_8abf5_9 : decode cJ0_length_8abf5 9 = .ok (.ishr, 1) := by decide +kernel
theorem dJ0_length_8abf5_10 : decode cJ0_length_8abf5 10 = .ok (.ireturn, 1) := by decide +kernel
theorem dJ0_charAt_5068e_0 : decode cJ0_charAt_5068e 0 = .ok (.aload_n 0, 1) := by decide +kernel
theorem dJ0_charAt_5068e_1 : decode cJ0_charAt_5068e 1 = .ok (.invokevirtual 492, 3) := by decide +kernel
theorem dJ0_charAt_5068e_4 : decode cJ0_charAt_5068e 4 = .ok (.ifCond .eq 12, 3) := by decide +kernel
theorem dJ0_charAt_5068e_7 : decode cJ0_charAt_5068e 7 = .ok (.aload_n 0, 1) := by decide +kernel
theorem dJ0_charAt_5068e_8 : decode cJ0_charAt_5068e 8 = .ok (.getfield 9, 3) := by decide +kernel
theorem dJ0_charAt_5068e_11 : decode cJ0_charAt_5068e 11 = .ok (.iload_n 1, 1) := by decide +kernel
theorem dJ0_charAt_5068e_12 : decode cJ0_charAt_5068e 12 = .ok (.invokestatic 495, 3) := by decide +kernel
theorem dJ0_charAt_5068e_15 : decode cJ0_charAt_5068e 15 = .ok (.ireturn, 1) := by decide +kernel
theorem dJ0_checkIndex_df160_0 : decode cJ0_checkIndex_df160 0 = .ok (.iload_n 0, 1) := by decide +kernel
theorem dJ0_checkIndex_df160_1 : decode cJ0_checkIndex_df160 1 = .ok (.iload_n 1, 1) := by decide +kernel
theorem dJ0_checkIndex_df160_2 : decode cJ0_checkIndex_df160 2 = .ok (.getstatic 1053, 3) := by decide +kernel
theorem dJ0_checkIndex_df160_5 : decode cJ0_checkIndex_df160 5 = .ok (.invokestatic 1059, 3) := by decide +kernel
theorem dJ0_checkIndex_df160_8 : decode cJ0_checkIndex_df160 8 = .ok (.pop, 1) := by decide +kernel
theorem dJ0_checkIndex_df160_9 : decode cJ0_checkIndex_df160 9 = .ok (.return_, 1) := by decide +kernel
theorem dJ0_coder_7d493_0 : decode cJ0_coder_7d493 0 = .ok (.getstatic 38, 3) := by decide +kernel
theorem dJ0_coder_7d493_3 : decode cJ0_coder_7d493 3 = .ok (.ifCond .eq 10, 3) := by decide +kernel
theorem dJ0_coder_7d493_6 : decode cJ0_coder_7d493 6 = .ok (.aload_n 0, 1) := by decide +kernel
theorem dJ0_coder_7d493_7 : decode cJ0_coder_7d493 7 = .ok (.getfield 15, 3) := by decide +kernel
theorem dJ0_coder_7d493_10 : decode cJ0_coder_7d493 10 = .ok (.goto 4, 3) := by decide +kernel
theorem dJ0_coder_7d493_14 : decode cJ0_coder_7d493 14 = .ok (.ireturn, 1) := by decide +kernel
theorem dJ0_isLatin1_aae02_0 : decode cJ0_isLatin1_aae02 0 = .ok (.getstatic 38, 3) := by decide +kernel
theorem dJ0_isLatin1_aae02_3 : decode cJ0_isLatin1_aae02 3 = .ok (.ifCond .eq 14, 3) := by decide +kernel
theorem dJ0_isLatin1_aae02_6 : decode cJ0_isLatin1_aae02 6 = .ok (.aload_n 0, 1) := by decide +kernel
theorem dJ0_isLatin1_aae02_7 : decode cJ0_isLatin1_aae02 7 = .ok (.getfield 15, 3) := by decide +kernel
theorem dJ0_isLatin1_aae02_10 : decode cJ0_isLatin1_aae02 10 = .ok (.ifCond .ne 7, 3) := by decide +kernel
theorem dJ0_isLatin1_aae02_13 : decode cJ0_isLatin1_aae02 13 = .ok (.iconst 1, 1) := by decide +kernel
theorem dJ0_isLatin1_aae02_14 : decode cJ0_isLatin1_aae02 14 = .ok (.goto 4, 3) := by decide +kernel
theorem dJ0_isLatin1_aae02_18 : decode cJ0_isLatin1_aae02 18 = .ok (.ireturn, 1) := by decide +kernel
theorem dJ1_charAt_3b067_0 : decode cJ1_charAt_3b067 0 = .ok (.iload_n 1, 1) := by decide +kernel
theorem dJ1_charAt_3b067_1 : decode cJ1_charAt_3b067 1 = .ok (.aload_n 0, 1) := by decide +kernel
theorem dJ1_charAt_3b067_2 : decode cJ1_charAt_3b067 2 = .ok (.arraylength, 1) := by decide +kernel
theorem dJ1_charAt_3b067_3 : decode cJ1_charAt_3b067 3 = .ok (.invokestatic 9, 3) := by decide +kernel
theorem dJ1_charAt_3b067_6 : decode cJ1_charAt_3b067 6 = .ok (.aload_n 0, 1) := by decide +kernel
theorem dJ1_charAt_3b067_7 : decode cJ1_charAt_3b067 7 = .ok (.iload_n 1, 1) := by decide +kernel
theorem dJ1_charAt_3b067_8 : decode cJ1_charAt_3b067 8 = .ok (.baload, 1) := by decide +kernel
theorem dJ1_charAt_3b067_9 : decode cJ1_charAt_3b067 9 = .ok (.sipush 255, 3) := by decide +kernel
theorem dJ1_charAt_3b067_12 : decode cJ1_charAt_3b067 12 = .ok (.iand, 1) := by decide +kernel
theorem dJ1_charAt_3b067_13 : decode cJ1_charAt_3b067 13 = .ok (.i2c, 1) := by decide +kernel
theorem dJ1_charAt_3b067_14 : decode cJ1_charAt_3b067 14 = .ok (.ireturn, 1) := by decide +kernel
theorem dJ3_checkIndex_8e157_0 : decode cJ3_checkIndex_8e157 0 = .ok (.iload_n 0, 1) := by decide +kernel
theorem dJ3_checkIndex_8e157_1 : decode cJ3_checkIndex_8e157 1 = .ok (.ifCond .lt 8, 3) := by decide +kernel
theorem dJ3_checkIndex_8e157_4 : decode cJ3_checkIndex_8e157 4 = .ok (.iload_n 0, 1) := by decide +kernel
theorem dJ3_checkIndex_8e157_5 : decode cJ3_checkIndex_8e157 5 = .ok (.iload_n 1, 1) := by decide +kernel
theorem dJ3_checkIndex_8e157_6 : decode cJ3_checkIndex_8e157 6 = .ok (.if_icmp .lt 10, 3) := by decide +kernel
theorem dJ3_checkIndex_8e157_16 : decode cJ3_checkIndex_8e157 16 = .ok (.iload_n 0, 1) := by decide +kernel
theorem dJ3_checkIndex_8e157_17 : decode cJ3_checkIndex_8e157 17 = .ok (.ireturn, 1) := by decide +kernel
def m_J0_length : xM := (RJ0, cJ0_length_8abf5, 1, some .int)
def m_J0_charAt : xM := (RJ0, cJ0_charAt_5068e, 2, some .char)
def m_J0_coder : xM := (RJ0, cJ0_coder_7d493, 1, some .byte)
def m_J0_isLatin1 : xM := (RJ0, cJ0_isLatin1_aae02, 1, some .boolean)
def m_J0_checkIndex : xM := (RJ0, cJ0_checkIndex_df160, 2, none)
def m_J1_charAt : xM := (RJ1, cJ1_charAt_3b067, 2, some .char)
def m_J3_checkIndex : xM := (RJ3, cJ3_checkIndex_8e157, 3, some .int)
theorem lj_335 : x_VL RJ0 335 yJ0_coder_7d493 m_J0_coder 0 := ⟨⟨(xT_of 331 (by decide +kernel) (by decide +kernel)), (xT_of 332 (by decide +kernel) (by decide +kernel)), (xT_of 333 (by decide +kernel) (by decide +kernel)), (xT_of 98 (by decide +kernel) (by decide +kernel)), (xT_of 334 (by decide +kernel) (by decide +kernel))⟩, ⟨by decide +kernel, by decide +kernel, by decide +kernel⟩, by decide⟩
theorem lj_492 : x_VL RJ0 492 yJ0_isLatin1_aae02 m_J0_isLatin1 0 := ⟨⟨(xT_of 344 (by decide +kernel) (by decide +kernel)), (xT_of 345 (by decide +kernel) (by decide +kernel)), (xT_of 346 (by decide +kernel) (by decide +kernel)), (xT_of 98 (by decide +kernel) (by decide +kernel)), (xT_of 347 (by decide +kernel) (by decide +kernel))⟩, ⟨by decide +kernel, by decide +kernel, by decide +kernel⟩, by decide⟩
theorem lj_495 : x_SL RJ0 495 yJ1_charAt_3b067 m_J1_charAt 2 := ⟨⟨(xT_of 348 (by decide +kernel) (by decide +kernel)), (xT_of 349 (by decide +kernel) (by decide +kernel)), (xT_of 100 (by decide +kernel) (by decide +kernel)), (xT_of 350 (by decide +kernel) (by decide +kernel))⟩, ⟨by decide +kernel, by decide +kernel, by decide +kernel⟩, by decide⟩
theorem lj_9 : x_SL RJ1 9 yJ0_checkIndex_df160 m_J0_checkIndex 2 := ⟨⟨(xT_of 351 (by decide +kernel) (by decide +kernel)), (xT_of 352 (by decide +kernel) (by decide +kernel)), (xT_of 98 (by decide +kernel) (by decide +kernel)), (xT_of 353 (by decide +kernel) (by decide +kernel))⟩, ⟨by decide +kernel, by decide +kernel, by decide +kernel⟩, by decide⟩
theorem lj_1059 : x_SL RJ0 1059 yJ3_checkIndex_8e157 m_J3_checkIndex 3 := ⟨⟨(xT_of 356 (by decide +kernel) (by decide +kernel)), (xT_of 357 (by decide +kernel) (by decide +kernel)), (xT_of 101 (by decide +kernel) (by decide +kernel)), (xT_of 358 (by decide +kernel) (by decide +kernel))⟩, ⟨by decide +kernel, by decide +kernel, by decide +kernel⟩, by decide⟩
theorem lf_9 : Cond.fieldLink RJ0 9 "java/lang/String" "value" "[B" ∈ xT := (xT_of 1207 (by decide +kernel) (by decide +kernel))
theorem lf_15 : Cond.fieldLink RJ0 15 "java/lang/String" "coder" "B" ∈ xT := (xT_of 1208 (by decide +kernel) (by decide +kernel))
theorem lf_38 : Cond.fieldLink RJ0 38 "java/lang/String" "COMPACT_STRINGS" "Z" ∈ xT := (xT_of 335 (by decide +kernel) (by decide +kernel))
theorem lf_1053 : Cond.fieldLink RJ0 1053 "jdk/internal/util/Preconditions" "SIOOBE_FORMATTER" "Ljava/util/function/BiFunction;" ∈ xT := (xT_of 354 (by decide +kernel) (by decide +kernel))
/-! ===== String.length and String.charAt of the constants ===== -/
def jL (k : Nat) : Nat := [4, 4, 5, 5, 7, 6].getD k 0
def jB (k : Nat) : List Int32 := [[112, 97, 99, 107], [98, 101, 115, 116], [99, 108, 101, 97, 114], [99, 117, 116, 32, 63], [119, 104, 111, 108, 101, 32, 63], [116, 117, 114, 110, 32, 35]].getD k []
theorem jL_eq : ∀ k, k < 6 → (x_txt (100 + k)).length = jL k ∧ x_txt (100 + k) = jB k := by decide +kernel
theorem jB_255 : ∀ k, k < 6 → ∀ j, j < 7 → (jB k).getD j 0 &&& 255 = (jB k).getD j 0 := by decide +kernel
theorem jL_le : ∀ k, k < 6 → jL k ≤ 7 := by decide +kernel
def jA (sz q : Nat) : Prop := sz ≤ q
def JE (k aS aV : Nat) (A : Nat → Prop) (U : State) (H : Heap) : Prop := va_O "java/lang/String" aS A U H ∧ va_OF "java/lang/String" "coder" "B" (.int 0) aS A U H ∧ va_OF "java/lang/String" "value" "[B" (.ref aV) aS A U H ∧ va_T .byte aV (jL k) (fun j => .int ((jB k).getD j 0)) A U H ∧ va_Z "java/lang/String" "COMPACT_STRINGS" "Z" (.int 1) A U H ∧ va_Zq "jdk/internal/util/Preconditions" "SIOOBE_FORMATTER" "Ljava/util/function/BiFunction;" A U H
theorem JE.go {k aS aV : Nat} {A B : Nat → Prop} {s U : State} {H : Heap} (h : JE k aS aV A s s.heap) (hW : s.WarmedH U.vm) (hq : ∀ a : Nat, a < s.heap.size → ¬ A a → H[a]? = s.heap[a]?) (hAB : ∀ q, B q → A q) : JE k aS aV B U H := by
  obtain ⟨h1, h2, h3, h4, h5, h6⟩ := h
  exact ⟨((h1.kept hq).moved hW.alike).narrow hAB, ((h2.kept hq).moved hW.alike).narrow hAB, ((h3.kept hq).moved hW.alike).narrow hAB, ((h4.kept hq).moved hW.alike).narrow hAB, ((h5.kept hq).moved hW.alike).narrow hAB, ((h6.kept hq).moved hW.alike).narrow hAB⟩
theorem JE.calling {k aS aV : Nat} {A : Nat → Prop} {U : State} {g : JFrame} {mk : MethodId} {a : Array Value} {H : Heap} (h : JE k aS aV A U H) : JE k aS aV A (U.calling g mk a) H := by
  obtain ⟨h1, h2, h3, h4, h5, h6⟩ := h
  exact ⟨va_O.moved (u := U) (Vm.Alike.refl U.vm) h1, va_OF.moved (u := U) (Vm.Alike.refl U.vm) h2, va_OF.moved (u := U) (Vm.Alike.refl U.vm) h3, va_T.moved (u := U) (Vm.Alike.refl U.vm) h4, va_Z.moved (u := U) (Vm.Alike.refl U.vm) h5, va_Zq.moved (u := U) (Vm.Alike.refl U.vm) h6⟩
def JQ (rv : Option Value) (sz : Nat) : Array Value → State → Outcome → State → Prop := fun _ st oc t => oc = .returned rv ∧ va_F (jA sz) st t
def JB (k aS aV sz : Nat) : State → Prop := fun U => U.heap.size = sz ∧ JE k aS aV (jA sz) U U.heap
def JC (y : MethodName) (M : xM) (h k aS aV : Nat) (av : List Value) (rv : Option Value) : Prop := ∀ (l : Launch) (sz : Nat), Met l y (.code y M.2.1 M.2.2.1 M.2.2.2 :: xT) (x_rm h) (va_Pc av (JB k aS aV sz)) (JQ rv sz) 0 0 (jA sz)
theorem JB_blind (k aS aV sz : Nat) (av : List Value) : FrameBlind (va_Pc av (JB k aS aV sz)) := by
  intro a U g mk q
  obtain ⟨q0, q1, qE⟩ := q
  exact ⟨q0, q1, qE.calling⟩
theorem j_con {y : MethodName} {M : xM} {h k aS aV : Nat} {av : List Value} {rv : Option Value} (hy : plainName y.cls = true) (ho : M.1 = y.cls) (hn : Nat.ble (lg_sl av).length M.2.2.1 = true)
    (kk : ∀ (p : Program) (l : Launch) (e : Env) (s : State) (m : MethodId) (args : Array Value) (below : List Frame) (meth : Method) (c : Code) (ls : Array Slot), x_C M p s m args meth c → JE k aS aV (jA s.heap.size) s s.heap → lv_has ls M.2.2.1 (lv_args 0 av) → W p l e (x_rm h) s m args below meth c s.heap [] 0 0 (MQ below (JQ rv s.heap.size) args s 0 0 (jA s.heap.size)) (F0 m 0 ls [])) : JC y M h k aS aV av rv := by
  intro l sz
  refine Met.ofW (cc := M.2.1) (maxL := M.2.2.1) (ret := M.2.2.2) hy rfl ?_
  intro p e s m args below meth c s₁ B hml hv
  obtain ⟨rfl, hsz, hE⟩ := hv
  have hts := atoms_spec (ws := (.code y M.2.1 M.2.2.1 M.2.2.2 :: xT)) B.pre
  have hown : s.vm.findClass y.cls = some m.cls := findClass_of_methodNamed B.named
  subst hsz
  have hl9 := lv_entry av (n := M.2.2.1) (Nat.le_of_ble_eq_true hn)
  rw [lg_entry_eq]
  exact kk p l e s m _ below meth c _ ⟨B.exec, B.bytes, B.returns, hml, by rw [ho]; exact hown, B.notSynchronized, fun w hw => hts w (List.mem_cons_of_mem _ hw)⟩ hE hl9
section JW
variable {p : Program} {l : Launch} {e : Env} {h : Nat} {s : State} {m : MethodId} {args : Array Value} {below : List Frame} {meth : Method} {c : Code} {H : Heap} {locs : List Loc} {Q : State → Prop}
variable {M : xM} {pc : Nat} {ls : Array Slot} {rest : List Value} {A : Nat → Prop}
theorem j_run {rv : Option Value} {a : Array Value} {st0 : List Value} (hr : va_Run p l e (x_rm h) s m args below meth c H locs 0 0 0 0 (F0 m pc ls st0) rest (JQ rv H.size a) (jA H.size)) (hS : va_S A s.heap H locs) (hA : ∀ q, s.heap.size ≤ q → A q)
    (kk : ∀ (H1 : Heap) (locs1 : List Loc), (∀ q : Nat, q < H.size → H1[q]? = H[q]?) → va_S A s.heap H1 locs1 → W p l e (x_rm h) s m args below meth c H1 locs1 0 0 Q (F0 m (pc + 3) ls (rv.toList ++ rest))) : W p l e (x_rm h) s m args below meth c H locs 0 0 Q (F0 m pc ls st0) := by
  intro T hT X
  obtain ⟨v, st₀, t, T', L, h0, X', hL, e1, e2, ⟨hv, hz, hkk⟩, st⟩ := hr T hT X
  cases hv
  rw [h0] at hz hkk
  have hq : ∀ q : Nat, q < H.size → T'.heap[q]? = H[q]? := fun q hq => by rw [e1]; exact hkk q hq (Nat.not_le.mpr hq)
  obtain ⟨t2, a1, b1⟩ := kk T'.heap (locs ++ L) hq ⟨Nat.le_trans hS.1 (by rw [e1]; exact hz), fun q h1 h2 => (hq q (Nat.lt_of_lt_of_le h1 hS.1)).trans (hS.2.1 q h1 h2), fun q hq' => by
      rcases List.mem_append.mp hq' with h9 | h9
      · exact hS.2.2 q h9
      · exact hA _ (Nat.le_trans hS.1 (hL q h9))⟩ T' rfl X'
  exact ⟨t2, st t2 a1, b1⟩
theorem j_callV {y : MethodName} {M' : xM} {h' n index k aS aV : Nat} {av : List Value} {rv : Option Value} (hC : x_C M p s m args meth c) (hd : decode M.2.1 pc = .ok (.invokevirtual index, 3)) (hl : x_VL M.1 index y M' n) (hy : y.cls = "java/lang/String") (hc : JC y M' h' k aS aV (.ref aS :: av) rv) (hE : JE k aS aV A s s.heap) (hn : av.length = n) (hw : (rest.map fun v => v.category).sum ≤ 8) (hh : h' + 1 ≤ h) (hS : va_S A s.heap H locs) (hA : ∀ q, s.heap.size ≤ q → A q) (hls : ls.size = M.2.2.1)
    (kk : ∀ (H1 : Heap) (locs1 : List Loc), (∀ q : Nat, q < H.size → H1[q]? = H[q]?) → va_S A s.heap H1 locs1 → W p l e (x_rm h) s m args below meth c H1 locs1 0 0 Q (F0 m (pc + 3) ls (rv.toList ++ rest))) : W p l e (x_rm h) s m args below meth c H locs 0 0 Q (F0 m pc ls (av.reverse ++ .ref aS :: rest)) := by
  obtain ⟨⟨w1, w2, w5, w3, w4⟩, hd3, hm⟩ := hl
  have hts := hC.2.2.2.2.2.2
  have hrecv : ∃ cell : Cell, H[aS]? = some cell ∧ cell.vm.isStatics = false ∧ s.vm.findClass y.cls = some cell.cls := by
    obtain ⟨cell, h1, h2, h3, -⟩ := hE.1.kept hS.2.1
    exact ⟨cell, h1, h2, by rw [hy]; exact h3⟩
  refine j_run (va_runV (nL := M.2.2.1) (C := y.cls) (b := aS) (As := av) (rest := rest) (own := M.1) (Ts := xT) ⟨hC.1, hC.2.1, hC.2.2.2.1, hC.2.2.2.2.1, hts⟩ (hc l H.size) (cwV n hts (x_GoodIn ?_) rfl rfl rfl ⟨rfl, hd3⟩ (x_room hh hm)) ⟨JB_blind _ _ _ _ _, hrecv, fun U hU hWm => ⟨rfl, by rw [hU], by rw [hU]; exact hE.go hWm hS.2.1 (fun q hq => hA q (Nat.le_trans hS.1 hq))⟩⟩ rfl hn hls rfl (by show 2 * 0 + _ ≤ 8; omega) hd ⟨Nat.le_refl _, Nat.le_refl _⟩) hS hA kk
  intro w hw
  simp only [wsV, List.mem_append, List.mem_cons, List.not_mem_nil, or_false] at hw
  rcases hw with (rfl | rfl | rfl | rfl) | rfl | hw
  · exact w1
  · exact w2
  · exact w5
  · exact w3
  · exact w4
  · exact hw
theorem j_callS {y : MethodName} {M' : xM} {h' n index k aS aV : Nat} {av : List Value} {rv : Option Value} (hC : x_C M p s m args meth c) (hd : decode M.2.1 pc = .ok (.invokestatic index, 3)) (hl : x_SL M.1 index y M' n) (hc : JC y M' h' k aS aV av rv) (hE : JE k aS aV A s s.heap) (hn : av.length = n) (hw : (rest.map fun v => v.category).sum ≤ 8) (hh : h' + 1 ≤ h) (hS : va_S A s.heap H locs) (hA : ∀ q, s.heap.size ≤ q → A q) (hls : ls.size = M.2.2.1)
    (kk : ∀ (H1 : Heap) (locs1 : List Loc), (∀ q : Nat, q < H.size → H1[q]? = H[q]?) → va_S A s.heap H1 locs1 → W p l e (x_rm h) s m args below meth c H1 locs1 0 0 Q (F0 m (pc + 3) ls (rv.toList ++ rest))) : W p l e (x_rm h) s m args below meth c H locs 0 0 Q (F0 m pc ls (av.reverse ++ rest)) := by
  obtain ⟨⟨w1, w2, w3, w4⟩, hd3, hm⟩ := hl
  have hts := hC.2.2.2.2.2.2
  refine j_run (va_runS (nL := M.2.2.1) (As := av) (rest := rest) (own := M.1) (Ts := xT) ⟨hC.1, hC.2.1, hC.2.2.2.1, hC.2.2.2.2.1, hts⟩ (hc l H.size) (va_cwS n hts (x_GoodIn ?_) rfl rfl rfl hd3 (x_room hh hm)) ⟨JB_blind _ _ _ _ _, fun U hU hWm => ⟨rfl, by rw [hU], by rw [hU]; exact hE.go hWm hS.2.1 (fun q hq => hA q (Nat.le_trans hS.1 hq))⟩⟩ rfl hn hls rfl (by show 2 * 0 + _ ≤ 8; omega) hd ⟨Nat.le_refl _, Nat.le_refl _⟩) hS hA kk
  intro w hw
  simp only [va_wsS, List.mem_append, List.mem_cons, List.not_mem_nil, or_false] at hw
  rcases hw with (rfl | rfl | rfl) | rfl | hw
  · exact w1
  · exact w2
  · exact w3
  · exact w4
  · exact hw
end JW
theorem jc_coder (k aS aV : Nat) : JC yJ0_coder_7d493 m_J0_coder 0 k aS aV [.ref aS] (some (.int 0)) := by
  refine j_con (by decide) rfl rfl ?_
  intro p l e s m args below meth c ls hC hE hl
  have hl : lv_has ls 1 [(0, .ref aS)] := hl
  have hS : va_S (jA s.heap.size) s.heap s.heap [] := va_S.rf
  have hts := hC.2.2.2.2.2.2
  refine va_gets hC.1 hC.2.1 hE.2.2.2.2.1 hS hC.2.2.2.2.1 (hts _ lf_38) (fun _ h => h) dJ0_coder_7d493_0 ?_
  refine lv_if_eq (tgt := 13) hC.1 hC.2.1 dJ0_coder_7d493_3 (by decide) (fun h => absurd h (by decide)) (fun _ => ?_)
  refine lv_aload_n hC.1 hC.2.1 dJ0_coder_7d493_6 rfl (lv_at hl 0 rfl) ?_
  refine vk_getf hC.1 hC.2.1 hE.2.1 hS hC.2.2.2.2.1 (hts _ lf_15) (fun _ h => h) dJ0_coder_7d493_7 ?_
  refine lv_goto (tgt := 14) hC.1 hC.2.1 dJ0_coder_7d493_10 (by decide) ?_
  exact W.zret (v := 0) hC.1 hC.2.1 hC.2.2.1 rfl (fun t ht hW => ⟨rfl, hS.F ht⟩) hS.2.2 dJ0_coder_7d493_14 hC.2.2.2.2.2.1
theorem jc_isLatin1 (k aS aV : Nat) : JC yJ0_isLatin1_aae02 m_J0_isLatin1 0 k aS aV [.ref aS] (some (.int 1)) := by
  refine j_con (by decide) rfl rfl ?_
  intro p l e s m args below meth c ls hC hE hl
  have hl : lv_has ls 1 [(0, .ref aS)] := hl
  have hS : va_S (jA s.heap.size) s.heap s.heap [] := va_S.rf
  have hts := hC.2.2.2.2.2.2
  refine va_gets hC.1 hC.2.1 hE.2.2.2.2.1 hS hC.2.2.2.2.1 (hts _ lf_38) (fun _ h => h) dJ0_isLatin1_aae02_0 ?_
  refine lv_if_eq (tgt := 17) hC.1 hC.2.1 dJ0_isLatin1_aae02_3 (by decide) (fun h => absurd h (by decide)) (fun _ => ?_)
  refine lv_aload_n hC.1 hC.2.1 dJ0_isLatin1_aae02_6 rfl (lv_at hl 0 rfl) ?_
  refine vk_getf hC.1 hC.2.1 hE.2.1 hS hC.2.2.2.2.1 (hts _ lf_15) (fun _ h => h) dJ0_isLatin1_aae02_7 ?_
  refine lv_if_ne (tgt := 17) hC.1 hC.2.1 dJ0_isLatin1_aae02_10 (by decide) (fun h => absurd rfl h) (fun _ => ?_)
  refine lv_iconst (v := 1) hC.1 hC.2.1 dJ0_isLatin1_aae02_13 rfl ?_
  refine lv_goto (tgt := 18) hC.1 hC.2.1 dJ0_isLatin1_aae02_14 (by decide) ?_
  exact W.zret (v := 1) hC.1 hC.2.1 hC.2.2.1 rfl (fun t ht hW => ⟨rfl, hS.F ht⟩) hS.2.2 dJ0_isLatin1_aae02_18 hC.2.2.2.2.2.1
theorem jc_pre (k aS aV : Nat) {i n : Int32} (hi : ¬ i < 0) (hn : i < n) {z : Value} (hz : z = .null ∨ ∃ t, z = .ref t) : JC yJ3_checkIndex_8e157 m_J3_checkIndex 0 k aS aV [.int i, .int n, z] (some (.int i)) := by
  have core : ∀ (p : Program) (l : Launch) (e : Env) (s : State) (m : MethodId) (args : Array Value) (below : List Frame) (meth : Method) (c : Code) (ls : Array Slot), x_C m_J3_checkIndex p s m args meth c → lv_has ls 3 [(0, .int i), (1, .int n), (2, z)] → W p l e (x_rm 0) s m args below meth c s.heap [] 0 0 (MQ below (JQ (some (.int i)) s.heap.size) args s 0 0 (jA s.heap.size)) (F0 m 0 ls []) := by
    intro p l e s m args below meth c ls hC hl
    have hS : va_S (jA s.heap.size) s.heap s.heap [] := va_S.rf
    refine lv_iload_n hC.1 hC.2.1 dJ3_checkIndex_8e157_0 rfl (lv_at hl 0 rfl) ?_
    refine lv_if_lt (tgt := 9) hC.1 hC.2.1 dJ3_checkIndex_8e157_1 (by decide) (fun h => absurd h hi) (fun _ => ?_)
    refine lv_iload_n hC.1 hC.2.1 dJ3_checkIndex_8e157_4 rfl (lv_at hl 0 rfl) ?_
    refine lv_iload_n hC.1 hC.2.1 dJ3_checkIndex_8e157_5 rfl (lv_at hl 1 rfl) ?_
    refine lv_icmp_lt (tgt := 16) hC.1 hC.2.1 dJ3_checkIndex_8e157_6 (by decide) (fun _ => ?_) (fun h => absurd hn h)
    refine lv_iload_n hC.1 hC.2.1 dJ3_checkIndex_8e157_16 rfl (lv_at hl 0 rfl) ?_
    exact W.iret hC.1 hC.2.1 hC.2.2.1 (fun t ht hW => ⟨rfl, hS.F ht⟩) hS.2.2 dJ3_checkIndex_8e157_17 hC.2.2.2.2.2.1
  rcases hz with rfl | ⟨t, rfl⟩
  · exact j_con (by decide) rfl rfl (fun p l e s m args below meth c ls hC hE hl => core p l e s m args below meth c ls hC hl)
  · exact j_con (by decide) rfl rfl (fun p l e s m args below meth c ls hC hE hl => core p l e s m args below meth c ls hC hl)
theorem jc_check (k aS aV : Nat) {i n : Int32} (hi : ¬ i < 0) (hn : i < n) : JC yJ0_checkIndex_df160 m_J0_checkIndex 1 k aS aV [.int i, .int n] none := by
  refine j_con (by decide) rfl rfl ?_
  intro p l e s m args below meth c ls hC hE hl
  have hl : lv_has ls 2 [(0, .int i), (1, .int n)] := hl
  have hS : va_S (jA s.heap.size) s.heap s.heap [] := va_S.rf
  have hts := hC.2.2.2.2.2.2
  have tail : ∀ z : Value, (z = .null ∨ ∃ t, z = .ref t) → va_Z "jdk/internal/util/Preconditions" "SIOOBE_FORMATTER" "Ljava/util/function/BiFunction;" z (jA s.heap.size) s s.heap → W p l e (x_rm 1) s m args below meth c s.heap [] 0 0 (MQ below (JQ none s.heap.size) args s 0 0 (jA s.heap.size)) (F0 m 0 ls []) := by
    intro z hz hZ
    refine lv_iload_n hC.1 hC.2.1 dJ0_checkIndex_df160_0 rfl (lv_at hl 0 rfl) ?_
    refine lv_iload_n hC.1 hC.2.1 dJ0_checkIndex_df160_1 rfl (lv_at hl 1 rfl) ?_
    refine va_gets hC.1 hC.2.1 hZ hS hC.2.2.2.2.1 (hts _ lf_1053) (fun _ h => h) dJ0_checkIndex_df160_2 ?_
    refine j_callS (av := [.int i, .int n, z]) (rest := []) hC dJ0_checkIndex_df160_5 lj_1059 (jc_pre k aS aV hi hn hz) hE rfl (Nat.zero_le _) (Nat.le_refl 1) hS (fun q h => h) hl.1 (fun H1 locs1 hq hS1 => ?_)
    refine lv_pop hC.1 hC.2.1 dJ0_checkIndex_df160_8 rfl ?_
    exact W.vret hC.1 hC.2.1 hC.2.2.1 (fun t ht hW => ⟨rfl, hS1.F ht⟩) hS1.2.2 dJ0_checkIndex_df160_9 hC.2.2.2.2.2.1
  rcases hE.2.2.2.2.2 with h | ⟨t, h⟩
  · exact tail _ (Or.inl rfl) h
  · exact tail _ (Or.inr ⟨t, rfl⟩) h
theorem jc_l1 (k aS aV : Nat) {i : Int32} (hk : jL k ≤ 7) (hin : vp_in i (jL k)) : JC yJ1_charAt_3b067 m_J1_charAt 2 k aS aV [.ref aV, .int i] (some (.int ((jB k).getD i.toNatClampNeg 0 &&& 255))) := by
  have hi : ¬ i < 0 := fun h => hin (Or.inl h)
  have hn : i < nI (jL k) := by
    have h2 := (vp_in_iff.mp hin).2
    rw [Int32.lt_iff_toInt_lt, nI_toInt (by omega)]
    exact h2
  refine j_con (by decide) rfl rfl ?_
  intro p l e s m args below meth c ls hC hE hl
  have hl : lv_has ls 2 [(0, .ref aV), (1, .int i)] := hl
  have hS : va_S (jA s.heap.size) s.heap s.heap [] := va_S.rf
  refine lv_iload_n hC.1 hC.2.1 dJ1_charAt_3b067_0 rfl (lv_at hl 1 rfl) ?_
  refine lv_aload_n hC.1 hC.2.1 dJ1_charAt_3b067_1 rfl (lv_at hl 0 rfl) ?_
  refine va_tlen (v := nI (jL k)) hC.1 hC.2.1 hE.2.2.2.1 hS rfl dJ1_charAt_3b067_2 ?_
  refine j_callS (av := [.int i, .int (nI (jL k))]) (rest := []) hC dJ1_charAt_3b067_3 lj_9 (jc_check k aS aV hi hn) hE rfl (Nat.zero_le _) (Nat.le_refl 2) hS (fun q h => h) hl.1 (fun H1 locs1 hq hS1 => ?_)
  refine lv_aload_n hC.1 hC.2.1 dJ1_charAt_3b067_6 rfl (lv_at hl 0 rfl) ?_
  refine lv_iload_n hC.1 hC.2.1 dJ1_charAt_3b067_7 rfl (lv_at hl 1 rfl) ?_
  refine va_tb hC.1 hC.2.1 hE.2.2.2.1 hS1 hin rfl dJ1_charAt_3b067_8 ?_
  refine lv_sipush (v := 255) hC.1 hC.2.1 dJ1_charAt_3b067_9 rfl ?_
  refine lv_iand hC.1 hC.2.1 dJ1_charAt_3b067_12 ?_
  refine lv_i2c hC.1 hC.2.1 dJ1_charAt_3b067_13 (sc_c2 _) ?_
  exact W.zret hC.1 hC.2.1 hC.2.2.1 (sc_nar _) (fun t ht hW => ⟨rfl, hS1.F ht⟩) hS1.2.2 dJ1_charAt_3b067_14 hC.2.2.2.2.2.1
theorem jc_length (k aS aV : Nat) (hk : jL k ≤ 7) : JC yJ0_length_8abf5 m_J0_length 1 k aS aV [.ref aS] (some (.int (nI (jL k)))) := by
  refine j_con (by decide) rfl rfl ?_
  intro p l e s m args below meth c ls hC hE hl
  have hl : lv_has ls 1 [(0, .ref aS)] := hl
  have hS : va_S (jA s.heap.size) s.heap s.heap [] := va_S.rf
  have hts := hC.2.2.2.2.2.2
  refine lv_aload_n hC.1 hC.2.1 dJ0_length_8abf5_0 rfl (lv_at hl 0 rfl) ?_
  refine vk_getf hC.1 hC.2.1 hE.2.2.1 hS hC.2.2.2.2.1 (hts _ lf_9) (fun _ h => h) dJ0_length_8abf5_1 ?_
  refine va_tlen (v := nI (jL k)) hC.1 hC.2.1 hE.2.2.2.1 hS rfl dJ0_length_8abf5_4 ?_
  refine lv_aload_n hC.1 hC.2.1 dJ0_length_8abf5_5 rfl (lv_at hl 0 rfl) ?_
  refine j_callV (av := []) (rest := [.int (nI (jL k))]) hC dJ0_length_8abf5_6 lj_335 rfl (jc_coder k aS aV) hE rfl (Nat.le_of_ble_eq_true rfl) (Nat.le_refl 1) hS (fun q h => h) hl.1 (fun H1 locs1 hq hS1 => ?_)
  refine lv_ishr hC.1 hC.2.1 dJ0_length_8abf5_9 ?_
  rw [sc_shr0 (show jL k < 2 ^ 31 by omega)]
  exact W.iret hC.1 hC.2.1 hC.2.2.1 (fun t ht hW => ⟨rfl, hS1.F ht⟩) hS1.2.2 dJ0_length_8abf5_10 hC.2.2.2.2.2.1
theorem jc_charAt (k aS aV : Nat) {i : Int32} (hk : jL k ≤ 7) (hin : vp_in i (jL k)) : JC yJ0_charAt_5068e m_J0_charAt 3 k aS aV [.ref aS, .int i] (some (.int ((jB k).getD i.toNatClampNeg 0 &&& 255))) := by
  refine j_con (by decide) rfl rfl ?_
  intro p l e s m args below meth c ls hC hE hl
  have hl : lv_has ls 2 [(0, .ref aS), (1, .int i)] := hl
  have hS : va_S (jA s.heap.size) s.heap s.heap [] := va_S.rf
  have hts := hC.2.2.2.2.2.2
  refine lv_aload_n hC.1 hC.2.1 dJ0_charAt_5068e_0 rfl (lv_at hl 0 rfl) ?_
  refine j_callV (av := []) (rest := []) hC dJ0_charAt_5068e_1 lj_492 rfl (jc_isLatin1 k aS aV) hE rfl (Nat.zero_le _) (Nat.le_of_ble_eq_true rfl) hS (fun q h => h) hl.1 (fun H1 locs1 hq hS => ?_)
  refine lv_if_eq (tgt := 16) hC.1 hC.2.1 dJ0_charAt_5068e_4 (by decide) (fun h => absurd h (by decide)) (fun _ => ?_)
  refine lv_aload_n hC.1 hC.2.1 dJ0_charAt_5068e_7 rfl (lv_at hl 0 rfl) ?_
  refine vk_getf hC.1 hC.2.1 hE.2.2.1 hS hC.2.2.2.2.1 (hts _ lf_9) (fun _ h => h) dJ0_charAt_5068e_8 ?_
  refine lv_iload_n hC.1 hC.2.1 dJ0_charAt_5068e_11 rfl (lv_at hl 1 rfl) ?_
  refine j_callS (av := [.ref aV, .int i]) (rest := []) hC dJ0_charAt_5068e_12 lj_495 (jc_l1 k aS aV hk hin) hE rfl (Nat.zero_le _) (Nat.le_refl 3) hS (fun q h => h) hl.1 (fun H1 locs1 hq hS => ?_)
  exact W.zret hC.1 hC.2.1 hC.2.2.1 (sc_nar _) (fun t ht hW => ⟨rfl, hS.F ht⟩) hS.2.2 dJ0_charAt_5068e_15 hC.2.2.2.2.2.1
theorem x_str_length {ρ : Type} {κ : ρ → Option Value} {M : xM} {h : Nat} {sh : xSh} {pc : Nat} {L : List (Option Value)} {S : List Value} {σ : xSt} {i index : Nat} {k : Int32 → xSt → Option (ρ × xSt)} (hd : decode M.2.1 pc = .ok (.invokevirtual index, 3)) (hl : x_VL M.1 index yJ0_length_8abf5 m_J0_length 0) (hh : Nat.ble 9 h = true) (hw : Nat.ble ((S.map fun v => v.category).sum) 8 = true) (kk : ∀ (r : Int32) (σ1 : xSt), XP κ true M h sh (pc + 3) L (.int r :: S) σ1 (k r σ1)) : XP κ true M h sh pc L (.ref i :: S) σ (bnd (f_str_length i σ) k) := by
  rw [f_str_length]
  by_cases q : 100 ≤ i ∧ i < 106
  · rw [if_pos q]
    obtain ⟨k0, hk0, rfl⟩ : ∃ k0, k0 < 6 ∧ i = 100 + k0 := ⟨i - 100, by omega, by omega⟩
    have e0 : Int32.ofNat (x_txt (100 + k0)).length = nI (jL k0) := by rw [(jL_eq k0 hk0).1]; rfl
    rw [e0]
    intro r σ' ho p l e s m args below meth c D ad cI A hC hK hD hA hE H locs ls hP hS hL
    obtain ⟨-, ⟨adV, hv⟩, hz, hzq, -, -⟩ := hE rfl
    have hJ : JE k0 (ad (100 + k0)) (adV k0) A s s.heap := ⟨(hv.1 k0 hk0).1, (hv.1 k0 hk0).2.1, (hv.1 k0 hk0).2.2.1, (hv.1 k0 hk0).2.2.2, hz, hzq⟩
    have hw := Nat.le_of_ble_eq_true hw
    have hh := Nat.le_of_ble_eq_true hh
    exact j_callV (av := []) (rest := S.map (x_v ad)) hC hd hl rfl (jc_length k0 _ _ (jL_le k0 hk0)) hJ rfl (by rw [x_sum]; exact hw) (by omega) hS hA hL.1 (fun H1 locs1 hq hS1 => kk _ σ r σ' ho p l e s m args below meth c D ad cI A hC hK hD hA hE H1 locs1 ls (hP.kept (fun k q hk => hq q.1 ((hP k q hk).lt))) hS1 hL)
  · rw [if_neg q]; exact x_none
theorem x_str_charAt {ρ : Type} {κ : ρ → Option Value} {M : xM} {h : Nat} {sh : xSh} {pc : Nat} {L : List (Option Value)} {S : List Value} {σ : xSt} {i index : Nat} {j : Int32} {k : Int32 → xSt → Option (ρ × xSt)} (hd : decode M.2.1 pc = .ok (.invokevirtual index, 3)) (hl : x_VL M.1 index yJ0_charAt_5068e m_J0_charAt 1) (hh : Nat.ble 9 h = true) (hw : Nat.ble ((S.map fun v => v.category).sum) 8 = true) (kk : ∀ (r : Int32) (σ1 : xSt), XP κ true M h sh (pc + 3) L (.int r :: S) σ1 (k r σ1)) : XP κ true M h sh pc L (.int j :: .ref i :: S) σ (bnd (f_str_charAt i j σ) k) := by
  rw [f_str_charAt]
  by_cases q : 100 ≤ i ∧ i < 106
  · rw [if_pos q]
    obtain ⟨k0, hk0, rfl⟩ : ∃ k0, k0 < 6 ∧ i = 100 + k0 := ⟨i - 100, by omega, by omega⟩
    rw [gi]
    by_cases g : j < 0 ∨ (x_txt (100 + k0)).length ≤ j.toNatClampNeg
    · rw [if_pos g]; exact x_none
    · rw [if_neg g]
      have h7 := jL_le k0 hk0
      have hin : vp_in j (jL k0) := by rw [(jL_eq k0 hk0).1] at g; exact g
      have hlt : j.toNatClampNeg < 7 := by
        have : ¬ jL k0 ≤ j.toNatClampNeg := fun z => hin (Or.inr z)
        omega
      have e0 : (x_txt (100 + k0)).getD j.toNatClampNeg 0 = (jB k0).getD j.toNatClampNeg 0 &&& 255 := by rw [(jL_eq k0 hk0).2, jB_255 k0 hk0 _ hlt]
      rw [e0]
      intro r σ' ho p l e s m args below meth c D ad cI A hC hK hD hA hE H locs ls hP hS hL
      obtain ⟨-, ⟨adV, hv⟩, hz, hzq, -, -⟩ := hE rfl
      have hJ : JE k0 (ad (100 + k0)) (adV k0) A s s.heap := ⟨(hv.1 k0 hk0).1, (hv.1 k0 hk0).2.1, (hv.1 k0 hk0).2.2.1, (hv.1 k0 hk0).2.2.2, hz, hzq⟩
      have hw := Nat.le_of_ble_eq_true hw
      have hh := Nat.le_of_ble_eq_true hh
      exact j_callV (av := [.int j]) (rest := S.map (x_v ad)) hC hd hl rfl (jc_charAt k0 _ _ h7 hin) hJ rfl (by rw [x_sum]; exact hw) (by omega) hS hA hL.1 (fun H1 locs1 hq hS1 => kk _ σ r σ' ho p l e s m args below meth c D ad cI A hC hK hD hA hE H1 locs1 ls (hP.kept (fun k q hk => hq q.1 ((hP k q hk).lt))) hS1 hL)
  · rw [if_neg q]; exact x_none
theorem ls_RX4_48 : x_VL RX4 48 yJ0_length_8abf5 m_J0_length 0 := ⟨⟨(xT_of 327 (by decide +kernel) (by decide +kernel)), (xT_of 328 (by decide +kernel) (by decide +kernel)), (xT_of 329 (by decide +kernel) (by decide +kernel)), (xT_of 98 (by decide +kernel) (by decide +kernel)), (xT_of 330 (by decide +kernel) (by decide +kernel))⟩, ⟨by decide +kernel, by decide +kernel, by decide +kernel⟩, by decide⟩
theorem ls_RX4_67 : x_VL RX4 67 yJ0_charAt_5068e m_J0_charAt 1 := ⟨⟨(xT_of 340 (by decide +kernel) (by decide +kernel)), (xT_of 341 (by decide +kernel) (by decide +kernel)), (xT_of 342 (by decide +kernel) (by decide +kernel)), (xT_of 98 (by decide +kernel) (by decide +kernel)), (xT_of 343 (by decide +kernel) (by decide +kernel))⟩, ⟨by decide +kernel, by decide +kernel, by decide +kernel⟩, by decide⟩
