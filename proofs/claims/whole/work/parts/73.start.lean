/-! ===== new objects are alike ===== -/
theorem tkS_at : ∀ (i k : Nat), (tkS i).1 1 k = if k < i then (-1 : Int32) else 0
  | 0, k => rfl
  | i + 1, k => by
    show (up2 (tkS i) 1 i (-1)).1 1 k = _
    rw [up2_at, tkS_at i k]
    by_cases q : k = i
    · rw [if_pos ⟨rfl, q⟩, if_pos (by omega)]
    · rw [if_neg (fun h => q h.2)]
      by_cases g : k < i
      · rw [if_pos g, if_pos (by omega)]
      · rw [if_neg g, if_neg (by omega)]
theorem σC_z {c k : Nat} (h : c ≠ 29) : σC.1 c k = nI 0 := by
  show (if c = 29 then σP.1 1 else fun _ => 0) k = nI 0
  rw [if_neg h]; rfl
theorem σC_t {k : Nat} (h : k < 14) : σC.1 29 k = tI 0 := by
  show (if (29 : Nat) = 29 then σP.1 1 else fun _ => 0) k = tI 0
  rw [if_pos rfl]
  show (tkS 14).1 1 k = tI 0
  rw [tkS_at, if_pos h]; rfl
theorem cyc_0 {B : Nat → Nat} : ¬ cyc B 0 := by
  rintro ⟨s, r, _, h⟩
  exact absurd (wk_lt h).1 (Nat.not_lt_zero s)
theorem RE_start : RE σC σ0 := by
  refine ⟨0, 0, fun _ => 0, fun _ => 0, 0, fun _ => 0, 0, ?_⟩
  have hL : sgs (fun _ => 0) 0 0 6 = [] := by decide +kernel
  have z : ∀ {Q : Nat → Prop}, ∀ s, s < 0 → Q s := fun s hs => absurd hs (Nat.not_lt_zero s)
  rw [RR, RC, RM, hL]
  refine ⟨⟨⟨σC_z (by decide), by omega, fun k hk => absurd hk (by omega)⟩, by omega, σC_z (by decide), ⟨⟨⟨σC_z (by decide), by decide, z⟩, z⟩, z, z, fun _ => ⟨σC_z (by decide), z, z⟩, fun h => absurd h cyc_0⟩, ⟨fun _ => σC_z (by decide), fun a l h => absurd h.1 (Nat.not_lt_zero a)⟩, ⟨σC_z (by decide), σC_z (by decide), fun c hc => absurd hc (Nat.not_lt_zero c)⟩, ⟨fun s hs => ⟨σC_t hs, Nat.zero_le _⟩, fun _ _ _ => rfl⟩⟩, ⟨⟨rfl, by omega, fun k hk => absurd hk (by omega)⟩, rfl, ⟨rfl, z⟩, z, z, ⟨fun _ => rfl, fun a l h => absurd h.1 (Nat.not_lt_zero a)⟩, z⟩, ⟨by omega, σC_z (by decide), rfl, fun i hi => absurd hi (Nat.not_lt_zero i)⟩, by omega, σC_z (by decide), σC_z (by decide), rfl⟩
