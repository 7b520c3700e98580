theorem whole_start {p : Program} {e : Env} {s : State} {m : MethodId} {below : List Frame} {meth : Method} {c : Code} (l : Launch) (hflags : l.flags = flags0) {b L : Nat} {xs : Nat → Int32} (hL : L ≤ 2048) (C0 : lw_At p s m meth c b L xs) : W p l e room_1 s m #[Value.ref b] below meth c s.heap [] 0 0 (lw_Z below #[Value.ref b] s) (entryFrame m ([Value.ref b] : List Value).toArray 4) := by
  obtain ⟨hx, hb, hr, hml, hown, hts, hX, hbl, hlocks, hgv⟩ := C0
  have htx : ∀ w ∈ xT, w.before #[Value.ref b] s = true := fun w hw => hts w (xT_in hw)
  have hC : x_C m_law p s m #[Value.ref b] meth c := ⟨hx, hb, hr, hml, hown, hlocks, htx⟩
  obtain ⟨D, cI, hK⟩ := K_start htx
  obtain ⟨aK, hEs⟩ := xE_start hts hgv
  have hN : x_N true s := fun _ => ⟨va_Nw.of rfl (hts _ (List.mem_of_getElem? (i := 114) (by decide +kernel))), va_Nw.of rfl (hts _ (List.mem_of_getElem? (i := 130) (by decide +kernel))), va_Nw.of rfl (hts _ (List.mem_of_getElem? (i := 146) (by decide +kernel))), va_Nw.of rfl (hts _ (List.mem_of_getElem? (i := 199) (by decide +kernel))), va_Nw.of rfl (hts _ (List.mem_of_getElem? (i := 214) (by decide +kernel)))⟩
  have hA : ∀ q, s.heap.size ≤ q → lA s q := fun _ h => h
  have hS : va_S (lA s) s.heap s.heap [] := va_S.rf
  have hP : va_P D CL [] s.heap := fun k q h => by simp at h
  have hD : va_D (lA s) [] := ⟨fun i j p q h => by simp at h, fun k q h => by simp at h⟩
  have hl := lv_entry ([.ref b]) (n := 4) (Nat.le_of_ble_eq_true rfl)
  rw [lg_entry_eq]
  generalize (lg_sl ([.ref b]) ++ List.replicate (4 - (lg_sl ([.ref b])).length) Slot.unset).toArray = ls at hl ⊢
  have hl : lv_has ls 4 [(0, .ref b)] := hl
  refine k_new (S := []) (M := m_law) hC kc_X6 hN kk_X6 kl_X6 (Or.inl lc_law_9) hK hP hD hS hA hl.1 rfl ⟨Nat.le_of_ble_eq_true rfl, Nat.le_of_ble_eq_true rfl⟩ ⟨Nat.le_of_ble_eq_true rfl, Nat.le_of_ble_eq_true rfl⟩ dL_0 dL_3 dL_4 (fun a1 H locs hP hD hS => ?_)
  rw [List.nil_append] at hP hD
  refine lv_astore_n (lv' := [(1, .ref (a1 0)), (0, .ref b)]) hx hb dL_7 rfl hl (by decide) rfl (fun ls hl => ?_)
  refine k_new (S := []) (M := m_law) hC kc_X7 x_N.f kk_X7 kl_X7 (Or.inl lc_law_12) hK hP hD hS hA hl.1 rfl ⟨Nat.le_of_ble_eq_true rfl, Nat.le_of_ble_eq_true rfl⟩ ⟨Nat.le_of_ble_eq_true rfl, Nat.le_of_ble_eq_true rfl⟩ dL_8 dL_11 dL_12 (fun a2 H locs hP hD hS => ?_)
  refine lv_astore_n (lv' := [(2, .ref (a2 0)), (1, .ref (a1 0)), (0, .ref b)]) hx hb dL_15 rfl hl (by decide) rfl (fun ls hl => ?_)
  refine lv_iconst (v := 0) hx hb dL_16 rfl ?_
  refine lv_istore_n (lv' := [(3, .int 0), (2, .ref (a2 0)), (1, .ref (a1 0)), (0, .ref b)]) hx hb dL_17 rfl hl (by decide) rfl (fun ls hl => ?_)
  refine W.widen (k := 600000) (n := 7302250) (Nat.le_of_ble_eq_true rfl) (Nat.le_of_ble_eq_true rfl) ?_
  obtain ⟨ac, hac⟩ : ∃ ac : Nat → Nat, ac = fun i => if i < 100 then a1 i else aK (i - 100) := ⟨_, rfl⟩
  have e0 : ac 0 = a1 0 := by rw [hac]; rfl
  have eC : ∀ σ, x_w ac cI shC σ = x_w a1 cI shC σ := by
    intro σ
    rw [hac]
    exact ac_C a1 aK cI σ
  have X : LX p s m meth c b L xs D cI ac a2 := ⟨hC, hK, fun σ τ => by rw [eC]; exact (xD_st σ τ hD).2, fun σ τ => by rw [eC]; exact (xD_st σ τ hD).1, hEs ac (fun k => by
    rw [hac]
    show (if 100 + k < 100 then a1 (100 + k) else aK (100 + k - 100)) = aK k
    rw [if_neg (by omega), show 100 + k - 100 = k by omega]), hX, hbl, hL⟩
  exact law_loop X (L + 1) 0 σC σ0 (Nat.zero_le L) (by omega) RE_start H locs ls (by rw [eC]; exact xP_l hP) (xP_r hP) hS (by rw [e0]; exact lv_sub hl [3, 2, 1, 0] rfl)
