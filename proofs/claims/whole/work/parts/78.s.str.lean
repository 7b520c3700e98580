/-! ===== the String constants at the start ===== -/
theorem xE_start {b : Nat} {s : State} (hts : ∀ w ∈ lw_tbl, w.before #[Value.ref b] s = true) (hgv : (Jvm.Cond.and given_1 narrow_1).before #[Value.ref b] s = true) : ∃ aK : Nat → Nat, ∀ ad : Nat → Nat, (∀ k, ad (100 + k) = aK k) → x_E true ad (lA s) s s.heap := by
  have hs := flat_of_before _ hgv
  have hA : ∀ a : Nat, a < s.heap.size → ¬ lA s a := fun a h => Nat.not_le.mpr h
  obtain ⟨aK, aV, h1, h2⟩ := vk_Sof (args := #[Value.ref b]) (s := s) (N := 6) (tm := fun i => Term.string RX4 ([52, 54, 56, 58, 60, 62].getD i 0)) (len := [4, 4, 5, 5, 7, 6]) (byt := [[112, 97, 99, 107], [98, 101, 115, 116], [99, 108, 101, 97, 114], [99, 117, 116, 32, 63], [119, 104, 111, 108, 101, 32, 63], [116, 117, 114, 110, 32, 35]]) (A := lA s)
    (fun i hi => by
      rcases (show i = 0 ∨ i = 1 ∨ i = 2 ∨ i = 3 ∨ i = 4 ∨ i = 5 by omega) with rfl | rfl | rfl | rfl | rfl | rfl <;> decide)
    (fun i hi => by
      rcases (show i = 0 ∨ i = 1 ∨ i = 2 ∨ i = 3 ∨ i = 4 ∨ i = 5 by omega) with rfl | rfl | rfl | rfl | rfl | rfl <;> exact hs _ (by decide +kernel))
    (fun i hi => by
      rcases (show i = 0 ∨ i = 1 ∨ i = 2 ∨ i = 3 ∨ i = 4 ∨ i = 5 by omega) with rfl | rfl | rfl | rfl | rfl | rfl <;> exact hs _ (by decide +kernel))
    (fun i hi => by
      rcases (show i = 0 ∨ i = 1 ∨ i = 2 ∨ i = 3 ∨ i = 4 ∨ i = 5 by omega) with rfl | rfl | rfl | rfl | rfl | rfl <;> exact hs _ (by decide +kernel))
    (fun i hi => by
      rcases (show i = 0 ∨ i = 1 ∨ i = 2 ∨ i = 3 ∨ i = 4 ∨ i = 5 by omega) with rfl | rfl | rfl | rfl | rfl | rfl <;> exact hs _ (by decide +kernel))
    (fun i hi j hj => by
      rcases (show i = 0 ∨ i = 1 ∨ i = 2 ∨ i = 3 ∨ i = 4 ∨ i = 5 by omega) with rfl | rfl | rfl | rfl | rfl | rfl
      · have hj : j < 4 := hj
        rcases (show j = 0 ∨ j = 1 ∨ j = 2 ∨ j = 3 by omega) with rfl | rfl | rfl | rfl <;> exact hs _ (by decide +kernel)
      · have hj : j < 4 := hj
        rcases (show j = 0 ∨ j = 1 ∨ j = 2 ∨ j = 3 by omega) with rfl | rfl | rfl | rfl <;> exact hs _ (by decide +kernel)
      · have hj : j < 5 := hj
        rcases (show j = 0 ∨ j = 1 ∨ j = 2 ∨ j = 3 ∨ j = 4 by omega) with rfl | rfl | rfl | rfl | rfl <;> exact hs _ (by decide +kernel)
      · have hj : j < 5 := hj
        rcases (show j = 0 ∨ j = 1 ∨ j = 2 ∨ j = 3 ∨ j = 4 by omega) with rfl | rfl | rfl | rfl | rfl <;> exact hs _ (by decide +kernel)
      · have hj : j < 7 := hj
        rcases (show j = 0 ∨ j = 1 ∨ j = 2 ∨ j = 3 ∨ j = 4 ∨ j = 5 ∨ j = 6 by omega) with rfl | rfl | rfl | rfl | rfl | rfl | rfl <;> exact hs _ (by decide +kernel)
      · have hj : j < 6 := hj
        rcases (show j = 0 ∨ j = 1 ∨ j = 2 ∨ j = 3 ∨ j = 4 ∨ j = 5 by omega) with rfl | rfl | rfl | rfl | rfl | rfl <;> exact hs _ (by decide +kernel))
    (fun i j hi hj hij => by
      rcases (show i = 0 ∨ i = 1 ∨ i = 2 ∨ i = 3 ∨ i = 4 ∨ i = 5 by omega) with rfl | rfl | rfl | rfl | rfl | rfl
      · rcases (show j = 0 ∨ j = 1 ∨ j = 2 ∨ j = 3 ∨ j = 4 ∨ j = 5 by omega) with rfl | rfl | rfl | rfl | rfl | rfl
        · exact absurd rfl hij
        · exact Or.inl (hs _ (by decide +kernel))
        · exact Or.inl (hs _ (by decide +kernel))
        · exact Or.inl (hs _ (by decide +kernel))
        · exact Or.inl (hs _ (by decide +kernel))
        · exact Or.inl (hs _ (by decide +kernel))
      · rcases (show j = 0 ∨ j = 1 ∨ j = 2 ∨ j = 3 ∨ j = 4 ∨ j = 5 by omega) with rfl | rfl | rfl | rfl | rfl | rfl
        · exact Or.inr (hs _ (by decide +kernel))
        · exact absurd rfl hij
        · exact Or.inl (hs _ (by decide +kernel))
        · exact Or.inl (hs _ (by decide +kernel))
        · exact Or.inl (hs _ (by decide +kernel))
        · exact Or.inl (hs _ (by decide +kernel))
      · rcases (show j = 0 ∨ j = 1 ∨ j = 2 ∨ j = 3 ∨ j = 4 ∨ j = 5 by omega) with rfl | rfl | rfl | rfl | rfl | rfl
        · exact Or.inr (hs _ (by decide +kernel))
        · exact Or.inr (hs _ (by decide +kernel))
        · exact absurd rfl hij
        · exact Or.inl (hs _ (by decide +kernel))
        · exact Or.inl (hs _ (by decide +kernel))
        · exact Or.inl (hs _ (by decide +kernel))
      · rcases (show j = 0 ∨ j = 1 ∨ j = 2 ∨ j = 3 ∨ j = 4 ∨ j = 5 by omega) with rfl | rfl | rfl | rfl | rfl | rfl
        · exact Or.inr (hs _ (by decide +kernel))
        · exact Or.inr (hs _ (by decide +kernel))
        · exact Or.inr (hs _ (by decide +kernel))
        · exact absurd rfl hij
        · exact Or.inl (hs _ (by decide +kernel))
        · exact Or.inl (hs _ (by decide +kernel))
      · rcases (show j = 0 ∨ j = 1 ∨ j = 2 ∨ j = 3 ∨ j = 4 ∨ j = 5 by omega) with rfl | rfl | rfl | rfl | rfl | rfl
        · exact Or.inr (hs _ (by decide +kernel))
        · exact Or.inr (hs _ (by decide +kernel))
        · exact Or.inr (hs _ (by decide +kernel))
        · exact Or.inr (hs _ (by decide +kernel))
        · exact absurd rfl hij
        · exact Or.inl (hs _ (by decide +kernel))
      · rcases (show j = 0 ∨ j = 1 ∨ j = 2 ∨ j = 3 ∨ j = 4 ∨ j = 5 by omega) with rfl | rfl | rfl | rfl | rfl | rfl
        · exact Or.inr (hs _ (by decide +kernel))
        · exact Or.inr (hs _ (by decide +kernel))
        · exact Or.inr (hs _ (by decide +kernel))
        · exact Or.inr (hs _ (by decide +kernel))
        · exact Or.inr (hs _ (by decide +kernel))
        · exact absurd rfl hij)
    hA
  refine ⟨aK, fun ad had _ => ⟨fun k hk => ?_, ⟨aV, by rw [show (fun k => ad (100 + k)) = aK from funext had]; exact h1⟩, va_Zof (hts _ (List.mem_of_getElem? (i := 336) (by decide +kernel))) (hts _ (List.mem_of_getElem? (i := 98) (by decide +kernel))) (va_eqt (hs _ (by decide +kernel))) hA, va_Zqof (hts _ (List.mem_of_getElem? (i := 355) (by decide +kernel))) (hts _ (List.mem_of_getElem? (i := 101) (by decide +kernel))) (hs _ (by decide +kernel)) hA, va_Nw.of rfl (hts _ (List.mem_of_getElem? (i := 432) (by decide +kernel))), va_Nw.of rfl (hts _ (List.mem_of_getElem? (i := 435) (by decide +kernel)))⟩⟩
  rw [had k]
  have h3 := h2 k hk
  rcases (show k = 0 ∨ k = 1 ∨ k = 2 ∨ k = 3 ∨ k = 4 ∨ k = 5 by omega) with rfl | rfl | rfl | rfl | rfl | rfl
  · exact vk_R.of (hts _ (List.mem_of_getElem? (i := 317) (by decide +kernel))) h3
  · exact vk_R.of (hts _ (List.mem_of_getElem? (i := 318) (by decide +kernel))) h3
  · exact vk_R.of (hts _ (List.mem_of_getElem? (i := 319) (by decide +kernel))) h3
  · exact vk_R.of (hts _ (List.mem_of_getElem? (i := 320) (by decide +kernel))) h3
  · exact vk_R.of (hts _ (List.mem_of_getElem? (i := 321) (by decide +kernel))) h3
  · exact vk_R.of (hts _ (List.mem_of_getElem? (i := 322) (by decide +kernel))) h3
