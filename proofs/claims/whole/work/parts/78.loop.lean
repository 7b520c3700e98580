/-! ===== the law's loop ===== -/
theorem lenI {j L : Nat} (hj : j ≤ 2048) (hL : L ≤ 2048) (h : L < j + 4) : Int32.ofNat L - 4 < nI j := by
  rcases Nat.lt_or_ge L 4 with q | q
  · have : ∀ L, L < 4 → Int32.ofNat L - 4 < 0 := by decide
    exact neg_lt (this L q) j (by omega)
  · have e : Int32.ofNat L - 4 = nI (L - 4) := subI (b := 4) q
    rw [e]; exact xy_lt (by omega) (by omega)
theorem law_loop {p : Program} {l : Launch} {e : Env} {s : State} {m : MethodId} {below : List Frame} {meth : Method} {c : Code} {b L : Nat} {xs : Nat → Int32} {D : va_G} {cI : ClassId} {ac am : Nat → Nat} (X : LX p s m meth c b L xs D cI ac am) : ∀ (n j : Nat) (σ τ : xSt), j ≤ L → L + 1 ≤ j + n → RE σ τ → LJ p l e s m below meth c b D cI ac am (nI j) 18 [] σ τ := by
  intro n
  induction n with
  | zero =>
    intro j σ τ h1 h2
    exact absurd h2 (by omega)
  | succ n ih =>
    intro j σ τ hj hn hR H locs ls h1 h2 hS hl
    have X' := X
    obtain ⟨hC, hK, hD1, hD2, hE, hX, hbl, hL⟩ := X'
    refine lv_iload_n hC.1 hC.2.1 dL_18 rfl (lv_at hl 3 rfl) ?_
    refine lv_aload_n hC.1 hC.2.1 dL_19 rfl (lv_at hl 0 rfl) ?_
    refine va_slen hC.1 hC.2.1 hX hbl (Nat.not_le.mpr hbl) hS dL_20 ?_
    refine lv_iconst (v := 4) hC.1 hC.2.1 dL_21 rfl ?_
    refine lv_isub hC.1 hC.2.1 dL_22 ?_
    refine lv_icmp_gt (tgt := 759) hC.1 hC.2.1 dL_23 (by decide) (fun c1 => ?_) (fun c1 => ?_)
    · refine lv_iconst (v := 1) hC.1 hC.2.1 dL_759 rfl ?_
      refine va_forget (fun q hq => hS.2.2 q hq) ?_
      exact lw_ret hC.1 hC.2.1 hC.2.2.1 hC.2.2.2.2.2.1 dL_760
    · have hlt : j + 4 ≤ L := by
        rcases Nat.lt_or_ge L (j + 4) with q | q
        · exact absurd (lenI (by omega) hL q) c1
        · exact q
      have next : ∀ σ' τ', RE σ' τ' → LJ p l e s m below meth c b D cI ac am (nI j) 753 [] σ' τ' := by
        intro σ' τ' h' H locs ls h1 h2 hS hl
        refine lv_iinc (v := nI (j + 4)) (lv' := [(3, .int (nI (j + 4))), (0, .ref b), (1, .ref (ac 0)), (2, .ref (am 0))]) hC.1 hC.2.1 dL_753 hl (k := 3) rfl (nI_add j 4) (by decide) rfl (fun ls hl => ?_)
        refine lv_goto (tgt := 18) hC.1 hC.2.1 dL_756 (by decide) ?_
        exact ih (j + 4) σ' τ' (by omega) (by omega) h' H locs ls h1 h2 hS (lv_sub hl [1, 2, 3, 0] rfl)
      refine lv_aload_n hC.1 hC.2.1 dL_26 rfl (lv_at hl 0 rfl) ?_
      refine lv_iload_n hC.1 hC.2.1 dL_27 rfl (lv_at hl 3 rfl) ?_
      refine va_sld hC.1 hC.2.1 hX hbl (Nat.not_le.mpr hbl) hS (vp_in_nI (by omega) (by omega)) dL_28 ?_
      refine lv_bipush (v := 31) hC.1 hC.2.1 dL_29 rfl ?_
      refine lv_iand hC.1 hC.2.1 dL_31 ?_
      generalize xs (nI j).toNatClampNeg &&& 31 = v
      rcases c_lt v 24 (by omega) with ⟨kk, hk, rfl⟩ | hout
      · rcases (show kk = 0 ∨ kk = 1 ∨ kk = 2 ∨ kk = 3 ∨ kk = 4 ∨ kk = 5 ∨ kk = 6 ∨ kk = 7 ∨ kk = 8 ∨ kk = 9 ∨ kk = 10 ∨ kk = 11 ∨ kk = 12 ∨ kk = 13 ∨ kk = 14 ∨ kk = 15 ∨ kk = 16 ∨ kk = 17 ∨ kk = 18 ∨ kk = 19 ∨ kk = 20 ∨ kk = 21 ∨ kk = 22 ∨ kk = 23 by omega) with rfl | rfl | rfl | rfl | rfl | rfl | rfl | rfl | rfl | rfl | rfl | rfl | rfl | rfl | rfl | rfl | rfl | rfl | rfl | rfl | rfl | rfl | rfl | rfl
        · exact lv_tableIn (off := 112) (tgt := 144) hC.1 hC.2.1 dL_32 (by decide) (by decide) (by decide +kernel) (by decide) (lcase_0 X hlt hR next H locs ls h1 h2 hS hl)
        · exact lv_tableIn (off := 135) (tgt := 167) hC.1 hC.2.1 dL_32 (by decide) (by decide) (by decide +kernel) (by decide) (lcase_1 X hlt hR next H locs ls h1 h2 hS hl)
        · exact lv_tableIn (off := 148) (tgt := 180) hC.1 hC.2.1 dL_32 (by decide) (by decide) (by decide +kernel) (by decide) (lcase_2 X hlt hR next H locs ls h1 h2 hS hl)
        · exact lv_tableIn (off := 171) (tgt := 203) hC.1 hC.2.1 dL_32 (by decide) (by decide) (by decide +kernel) (by decide) (lcase_3 X hlt hR next H locs ls h1 h2 hS hl)
        · exact lv_tableIn (off := 184) (tgt := 216) hC.1 hC.2.1 dL_32 (by decide) (by decide) (by decide +kernel) (by decide) (lcase_4 X hlt hR next H locs ls h1 h2 hS hl)
        · exact lv_tableIn (off := 197) (tgt := 229) hC.1 hC.2.1 dL_32 (by decide) (by decide) (by decide +kernel) (by decide) (lcase_5 X hlt hR next H locs ls h1 h2 hS hl)
        · exact lv_tableIn (off := 220) (tgt := 252) hC.1 hC.2.1 dL_32 (by decide) (by decide) (by decide +kernel) (by decide) (lcase_6 X hlt hR next H locs ls h1 h2 hS hl)
        · exact lv_tableIn (off := 243) (tgt := 275) hC.1 hC.2.1 dL_32 (by decide) (by decide) (by decide +kernel) (by decide) (lcase_7 X hlt hR next H locs ls h1 h2 hS hl)
        · exact lv_tableIn (off := 276) (tgt := 308) hC.1 hC.2.1 dL_32 (by decide) (by decide) (by decide +kernel) (by decide) (lcase_8 X hlt hR next H locs ls h1 h2 hS hl)
        · exact lv_tableIn (off := 309) (tgt := 341) hC.1 hC.2.1 dL_32 (by decide) (by decide) (by decide +kernel) (by decide) (lcase_9 X hlt hR next H locs ls h1 h2 hS hl)
        · exact lv_tableIn (off := 342) (tgt := 374) hC.1 hC.2.1 dL_32 (by decide) (by decide) (by decide +kernel) (by decide) (lcase_10 X hlt hR next H locs ls h1 h2 hS hl)
        · exact lv_tableIn (off := 375) (tgt := 407) hC.1 hC.2.1 dL_32 (by decide) (by decide) (by decide +kernel) (by decide) (lcase_11 X hlt hR next H locs ls h1 h2 hS hl)
        · exact lv_tableIn (off := 408) (tgt := 440) hC.1 hC.2.1 dL_32 (by decide) (by decide) (by decide +kernel) (by decide) (lcase_12 X hlt hR next H locs ls h1 h2 hS hl)
        · exact lv_tableIn (off := 431) (tgt := 463) hC.1 hC.2.1 dL_32 (by decide) (by decide) (by decide +kernel) (by decide) (lcase_13 X hlt hR next H locs ls h1 h2 hS hl)
        · exact lv_tableIn (off := 454) (tgt := 486) hC.1 hC.2.1 dL_32 (by decide) (by decide) (by decide +kernel) (by decide) (lcase_14 X hlt hR next H locs ls h1 h2 hS hl)
        · exact lv_tableIn (off := 497) (tgt := 529) hC.1 hC.2.1 dL_32 (by decide) (by decide) (by decide +kernel) (by decide) (lcase_15 X hlt hR next H locs ls h1 h2 hS hl)
        · exact lv_tableIn (off := 520) (tgt := 552) hC.1 hC.2.1 dL_32 (by decide) (by decide) (by decide +kernel) (by decide) (lcase_16 X hlt hR next H locs ls h1 h2 hS hl)
        · exact lv_tableIn (off := 569) (tgt := 601) hC.1 hC.2.1 dL_32 (by decide) (by decide) (by decide +kernel) (by decide) (lcase_17 X hlt hR next H locs ls h1 h2 hS hl)
        · exact lv_tableIn (off := 602) (tgt := 634) hC.1 hC.2.1 dL_32 (by decide) (by decide) (by decide +kernel) (by decide) (lcase_18 X hlt hR next H locs ls h1 h2 hS hl)
        · exact lv_tableIn (off := 615) (tgt := 647) hC.1 hC.2.1 dL_32 (by decide) (by decide) (by decide +kernel) (by decide) (lcase_19 X hlt hR next H locs ls h1 h2 hS hl)
        · exact lv_tableIn (off := 628) (tgt := 660) hC.1 hC.2.1 dL_32 (by decide) (by decide) (by decide +kernel) (by decide) (lcase_20 X hlt hR next H locs ls h1 h2 hS hl)
        · exact lv_tableIn (off := 641) (tgt := 673) hC.1 hC.2.1 dL_32 (by decide) (by decide) (by decide +kernel) (by decide) (lcase_21 X hlt hR next H locs ls h1 h2 hS hl)
        · exact lv_tableIn (off := 684) (tgt := 716) hC.1 hC.2.1 dL_32 (by decide) (by decide) (by decide +kernel) (by decide) (lcase_22 X hlt hR next H locs ls h1 h2 hS hl)
        · exact lv_tableIn (off := 707) (tgt := 739) hC.1 hC.2.1 dL_32 (by decide) (by decide) (by decide +kernel) (by decide) (lcase_23 X hlt hR next H locs ls h1 h2 hS hl)
      · refine lv_tableOut (tgt := 753) hC.1 hC.2.1 dL_32 ?_ (by decide) (next σ τ hR H locs ls h1 h2 hS hl)
        rcases hout with h | h
        · exact Or.inl (Int32.lt_iff_toInt_lt.mp h)
        · right
          have h9 := Int32.le_iff_toInt_le.mp h
          rw [nI_toInt (by omega)] at h9
          omega
