/-! ===== the contracts of the constructors ===== -/
/-! Plan's own row, all -1 -/
noncomputable def f_Y1_take_2 (k : xSt → Option (Unit × xSt)) : Nat → Int32 → xSt → Option (Unit × xSt)
  | 0, _, _ => none
  | n + 1, w1, σ => if 14 ≤ w1 then (k  σ) else (gi w1 14 (vb (up2 σ 1 w1.toNatClampNeg (-1)) (fun s1 => f_Y1_take_2 k n (w1 + 1) s1)))
noncomputable def f_Y1_take (σ : xSt) : Option (Unit × xSt) := f_Y1_take_2 (fun (s2 : xSt) => some ((), s2)) FU 0 σ
theorem t_Y1_take_2 (k : xSt → Option (Unit × xSt)) (hk : ∀ (σ : xSt), XP κv false m_X1_takeAllAway 0 shX1 21 [none, none] [] σ (k  σ)) : ∀ (n : Nat) (w1 : Int32) (σ : xSt), XP κv false m_X1_takeAllAway 0 shX1 2 [some (.ref 0), some (.int w1)] [] σ (f_Y1_take_2 k n w1 σ) := by
  intro n
  induction n with
  | zero => intro w1 σ; exact x_none
  | succ n ih =>
    intro w1 σ
    rw [f_Y1_take_2]
    refine x_iload_n dX1_takeAllAway_2 rfl rfl ?_
    refine x_bipush (v := 14) dX1_takeAllAway_3 rfl ?_
    refine x_icmp_ge 21 dX1_takeAllAway_5 (by decide) (fun _ => ?_) (fun _ => ?_)
    · exact x_sub (x_le_n (x_le_n x_le_e)) (hk  _)
    · refine x_aload_n dX1_takeAllAway_8 rfl rfl ?_
      refine x_getR dX1_takeAllAway_9 lk_RX1_9 rfl rfl ?_
      refine x_iload_n dX1_takeAllAway_12 rfl rfl ?_
      refine x_iconst (v := -1) dX1_takeAllAway_13 rfl ?_
      refine x_iastB dX1_takeAllAway_14 rfl (fun s1 => ?_)
      refine x_iinc dX1_takeAllAway_15 rfl rfl rfl rfl ?_
      refine x_goto 2 dX1_takeAllAway_18 (by decide) ?_
      exact x_sub (x_le_s rfl (x_le_s rfl x_le_e)) (ih _ _)
theorem c_Y1_take (σ : xSt) : CON κv yX1_takeAllAway m_X1_takeAllAway false 0 shX1 [.ref 0] σ (f_Y1_take σ) := by
  refine x_con (L := [some (.ref 0), none]) (by decide) rfl rfl rfl ?_
  unfold f_Y1_take
  refine x_iconst (v := 0) dX1_takeAllAway_0 rfl ?_
  refine x_istore_n dX1_takeAllAway_1 rfl rfl rfl ?_
  refine x_sub (x_le_s rfl (x_le_s rfl x_le_e)) (t_Y1_take_2 _ (fun  s2 => ?_) FU _ _)
  exact x_vret dX1_takeAllAway_21 rfl
theorem e_Y1_take : f_Y1_take σ0 = some ((), σP) := by
  rw [f_Y1_take]
  refine lpF (fun m (a : Int32 × xSt) => f_Y1_take_2 (fun (s2 : xSt) => some ((), s2)) m a.1 a.2) (fun i => (nI i, tkS i)) 14 _ (by omega) (fun m i hi => ?_) (fun m => ?_)
  · show f_Y1_take_2 _ (m + 1) (nI i) (tkS i) = f_Y1_take_2 _ m (nI (i + 1)) (tkS (i + 1))
    rw [f_Y1_take_2, if_neg (show ¬ (14 : Int32) ≤ nI i from xn_le (a := 14) hi (by omega)), gi_nI hi (by omega), vb_def, nI_clS (by omega), xn_s]
    rfl
  · show f_Y1_take_2 _ (m + 1) (nI 14) (tkS 14) = _
    rw [f_Y1_take_2, if_pos (show (14 : Int32) ≤ nI 14 by decide)]
    rfl
theorem kc_X0 : KC false yX0_init m_X0_init 1 1 16 0 [.null, .int 0] shX0 σ0 := by
  refine k_con (by decide) rfl rfl rfl rfl ?_
  intro p l e s m args below meth c D cI h0 A ls hC hin hK hP hD hS hA hN hls hl0
  refine k_obj hC ko_X0 ko_1 ko_2 hl0 hls ⟨Nat.le_of_ble_eq_true rfl, Nat.le_of_ble_eq_true rfl⟩ dX0_init_0 dX0_init_1 ?_
  refine k_arr (v := 16) (N' := 16) hC hin kf_X0_9 rfl hK hP hD hS hA ko_3 hl0 rfl (by decide) rfl (by decide) ⟨Nat.le_of_ble_eq_true rfl, Nat.le_of_ble_eq_true rfl⟩ dX0_init_4 dX0_init_5 dX0_init_7 dX0_init_9 (fun q1 H locs hP hD hS => ?_)
  have hP : va_P D CL ((h0, .inr (0, [.ref q1, .int 0])) :: [(q1, .inl (cI, 16, .inl (fun _ => 0)))]) H := hP
  have hD : va_D A ((h0, .inr (0, [.ref q1, .int 0])) :: [(q1, .inl (cI, 16, .inl (fun _ => 0)))]) := hD
  refine W.widen (k := 1) (n := 16) (Nat.le_of_ble_eq_true rfl) (Nat.le_of_ble_eq_true rfl) ?_
  exact W.vret hC.1 hC.2.1 (hC.2.2.1.trans rfl) (fun t ht hW => ⟨rfl, ⟨fun i => [h0, q1].getD i 0, rfl, by rw [ht, x_w_eq]; exact hP, by rw [x_w_eq]; exact hD⟩, hS.F ht⟩) hS.2.2 dX0_init_12 hC.2.2.2.2.2.1
theorem kc_X1 : KC false yX1_init m_X1_init 1 1 14 1 [.null] shX1 σP := by
  refine k_con (by decide) rfl rfl rfl rfl ?_
  intro p l e s m args below meth c D cI h0 A ls hC hin hK hP hD hS hA hN hls hl0
  refine k_obj hC ko_X1 ko_1 ko_2 hl0 hls ⟨Nat.le_of_ble_eq_true rfl, Nat.le_of_ble_eq_true rfl⟩ dX1_init_0 dX1_init_1 ?_
  refine k_arr (v := 14) (N' := 14) hC hin kf_X1_9 rfl hK hP hD hS hA ko_3 hl0 rfl (by decide) rfl (by decide) ⟨Nat.le_of_ble_eq_true rfl, Nat.le_of_ble_eq_true rfl⟩ dX1_init_4 dX1_init_5 dX1_init_7 dX1_init_9 (fun q1 H locs hP hD hS => ?_)
  have hP : va_P D CL ((h0, .inr (1, [.ref q1])) :: [(q1, .inl (cI, 14, .inl (fun _ => 0)))]) H := hP
  have hD : va_D A ((h0, .inr (1, [.ref q1])) :: [(q1, .inl (cI, 14, .inl (fun _ => 0)))]) := hD
  refine W.widen (k := 1) (n := 14) (Nat.le_of_ble_eq_true rfl) (Nat.le_of_ble_eq_true rfl) ?_
  have hP : va_P D CL ([] ++ x_w (fun i => [h0, q1].getD i 0) cI shX1 σ0) H := by rw [x_w_eq]; exact hP
  have hD : va_D A ([] ++ x_w (fun i => [h0, q1].getD i 0) cI shX1 σ0) := by rw [x_w_eq]; exact hD
  refine lv_aload_n hC.1 hC.2.1 dX1_init_12 rfl hl0 ?_
  refine k_call (av := []) (i := 0) (S := []) hC dX1_init_13 lc_RX1_15 (c_Y1_take σ0) e_Y1_take rfl rfl rfl ⟨Nat.le_of_ble_eq_true rfl, Nat.le_of_ble_eq_true rfl⟩ ⟨Nat.le_of_ble_eq_true rfl, Nat.le_of_ble_eq_true rfl⟩ rfl rfl hK hP hD hS hA (fun h => absurd h (by decide)) hls (fun H locs hP hS => ?_)
  have hD := x_D (σ' := σP) hD
  have hP : va_P D CL (x_w (fun i => [h0, q1].getD i 0) cI shX1 σP) H := hP
  rw [x_w_eq] at hP hD
  exact W.vret hC.1 hC.2.1 (hC.2.2.1.trans rfl) (fun t ht hW => ⟨rfl, ⟨fun i => [h0, q1].getD i 0, rfl, by rw [ht, x_w_eq]; exact hP, by rw [x_w_eq]; exact hD⟩, hS.F ht⟩) hS.2.2 dX1_init_16 hC.2.2.2.2.2.1
theorem kc_X2 : KC false yX2_init m_X2_init 1 1 14 2 [.null, .int 0] shX2 σ0 := by
  refine k_con (by decide) rfl rfl rfl rfl ?_
  intro p l e s m args below meth c D cI h0 A ls hC hin hK hP hD hS hA hN hls hl0
  refine k_obj hC ko_X2 ko_1 ko_2 hl0 hls ⟨Nat.le_of_ble_eq_true rfl, Nat.le_of_ble_eq_true rfl⟩ dX2_init_0 dX2_init_1 ?_
  refine k_arr (v := 14) (N' := 14) hC hin kf_X2_9 rfl hK hP hD hS hA ko_3 hl0 rfl (by decide) rfl (by decide) ⟨Nat.le_of_ble_eq_true rfl, Nat.le_of_ble_eq_true rfl⟩ dX2_init_4 dX2_init_5 dX2_init_7 dX2_init_9 (fun q1 H locs hP hD hS => ?_)
  have hP : va_P D CL ((h0, .inr (2, [.ref q1, .int 0])) :: [(q1, .inl (cI, 14, .inl (fun _ => 0)))]) H := hP
  have hD : va_D A ((h0, .inr (2, [.ref q1, .int 0])) :: [(q1, .inl (cI, 14, .inl (fun _ => 0)))]) := hD
  refine W.widen (k := 1) (n := 14) (Nat.le_of_ble_eq_true rfl) (Nat.le_of_ble_eq_true rfl) ?_
  exact W.vret hC.1 hC.2.1 (hC.2.2.1.trans rfl) (fun t ht hW => ⟨rfl, ⟨fun i => [h0, q1].getD i 0, rfl, by rw [ht, x_w_eq]; exact hP, by rw [x_w_eq]; exact hD⟩, hS.F ht⟩) hS.2.2 dX2_init_12 hC.2.2.2.2.2.1
theorem kc_X3 : KC false yX3_init m_X3_init 1 8 112 3 [.null, .null, .null, .null, .null, .null, .null, .null, .int 0, .int 0] shX3 σ0 := by
  refine k_con (by decide) rfl rfl rfl rfl ?_
  intro p l e s m args below meth c D cI h0 A ls hC hin hK hP hD hS hA hN hls hl0
  refine k_obj hC ko_X3 ko_1 ko_2 hl0 hls ⟨Nat.le_of_ble_eq_true rfl, Nat.le_of_ble_eq_true rfl⟩ dX3_init_0 dX3_init_1 ?_
  refine k_arr (v := 14) (N' := 14) hC hin kf_X3_9 rfl hK hP hD hS hA ko_3 hl0 rfl (by decide) rfl (by decide) ⟨Nat.le_of_ble_eq_true rfl, Nat.le_of_ble_eq_true rfl⟩ dX3_init_4 dX3_init_5 dX3_init_7 dX3_init_9 (fun q1 H locs hP hD hS => ?_)
  have hP : va_P D CL ((h0, .inr (3, [.ref q1, .null, .null, .null, .null, .null, .null, .null, .int 0, .int 0])) :: [(q1, .inl (cI, 14, .inl (fun _ => 0)))]) H := hP
  have hD : va_D A ((h0, .inr (3, [.ref q1, .null, .null, .null, .null, .null, .null, .null, .int 0, .int 0])) :: [(q1, .inl (cI, 14, .inl (fun _ => 0)))]) := hD
  refine k_arr (v := 14) (N' := 14) hC hin kf_X3_15 rfl hK hP hD hS hA ko_3 hl0 rfl (by decide) rfl (by decide) ⟨Nat.le_of_ble_eq_true rfl, Nat.le_of_ble_eq_true rfl⟩ dX3_init_12 dX3_init_13 dX3_init_15 dX3_init_17 (fun q2 H locs hP hD hS => ?_)
  have hP : va_P D CL ((h0, .inr (3, [.ref q1, .ref q2, .null, .null, .null, .null, .null, .null, .int 0, .int 0])) :: [(q1, .inl (cI, 14, .inl (fun _ => 0))), (q2, .inl (cI, 14, .inl (fun _ => 0)))]) H := hP
  have hD : va_D A ((h0, .inr (3, [.ref q1, .ref q2, .null, .null, .null, .null, .null, .null, .int 0, .int 0])) :: [(q1, .inl (cI, 14, .inl (fun _ => 0))), (q2, .inl (cI, 14, .inl (fun _ => 0)))]) := hD
  refine k_arr (v := 14) (N' := 14) hC hin kf_X3_18 rfl hK hP hD hS hA ko_3 hl0 rfl (by decide) rfl (by decide) ⟨Nat.le_of_ble_eq_true rfl, Nat.le_of_ble_eq_true rfl⟩ dX3_init_20 dX3_init_21 dX3_init_23 dX3_init_25 (fun q3 H locs hP hD hS => ?_)
  have hP : va_P D CL ((h0, .inr (3, [.ref q1, .ref q2, .ref q3, .null, .null, .null, .null, .null, .int 0, .int 0])) :: [(q1, .inl (cI, 14, .inl (fun _ => 0))), (q2, .inl (cI, 14, .inl (fun _ => 0))), (q3, .inl (cI, 14, .inl (fun _ => 0)))]) H := hP
  have hD : va_D A ((h0, .inr (3, [.ref q1, .ref q2, .ref q3, .null, .null, .null, .null, .null, .int 0, .int 0])) :: [(q1, .inl (cI, 14, .inl (fun _ => 0))), (q2, .inl (cI, 14, .inl (fun _ => 0))), (q3, .inl (cI, 14, .inl (fun _ => 0)))]) := hD
  refine k_arr (v := 14) (N' := 14) hC hin kf_X3_21 rfl hK hP hD hS hA ko_3 hl0 rfl (by decide) rfl (by decide) ⟨Nat.le_of_ble_eq_true rfl, Nat.le_of_ble_eq_true rfl⟩ dX3_init_28 dX3_init_29 dX3_init_31 dX3_init_33 (fun q4 H locs hP hD hS => ?_)
  have hP : va_P D CL ((h0, .inr (3, [.ref q1, .ref q2, .ref q3, .ref q4, .null, .null, .null, .null, .int 0, .int 0])) :: [(q1, .inl (cI, 14, .inl (fun _ => 0))), (q2, .inl (cI, 14, .inl (fun _ => 0))), (q3, .inl (cI, 14, .inl (fun _ => 0))), (q4, .inl (cI, 14, .inl (fun _ => 0)))]) H := hP
  have hD : va_D A ((h0, .inr (3, [.ref q1, .ref q2, .ref q3, .ref q4, .null, .null, .null, .null, .int 0, .int 0])) :: [(q1, .inl (cI, 14, .inl (fun _ => 0))), (q2, .inl (cI, 14, .inl (fun _ => 0))), (q3, .inl (cI, 14, .inl (fun _ => 0))), (q4, .inl (cI, 14, .inl (fun _ => 0)))]) := hD
  refine k_arr (v := 14) (N' := 14) hC hin kf_X3_24 rfl hK hP hD hS hA ko_3 hl0 rfl (by decide) rfl (by decide) ⟨Nat.le_of_ble_eq_true rfl, Nat.le_of_ble_eq_true rfl⟩ dX3_init_36 dX3_init_37 dX3_init_39 dX3_init_41 (fun q5 H locs hP hD hS => ?_)
  have hP : va_P D CL ((h0, .inr (3, [.ref q1, .ref q2, .ref q3, .ref q4, .ref q5, .null, .null, .null, .int 0, .int 0])) :: [(q1, .inl (cI, 14, .inl (fun _ => 0))), (q2, .inl (cI, 14, .inl (fun _ => 0))), (q3, .inl (cI, 14, .inl (fun _ => 0))), (q4, .inl (cI, 14, .inl (fun _ => 0))), (q5, .inl (cI, 14, .inl (fun _ => 0)))]) H := hP
  have hD : va_D A ((h0, .inr (3, [.ref q1, .ref q2, .ref q3, .ref q4, .ref q5, .null, .null, .null, .int 0, .int 0])) :: [(q1, .inl (cI, 14, .inl (fun _ => 0))), (q2, .inl (cI, 14, .inl (fun _ => 0))), (q3, .inl (cI, 14, .inl (fun _ => 0))), (q4, .inl (cI, 14, .inl (fun _ => 0))), (q5, .inl (cI, 14, .inl (fun _ => 0)))]) := hD
  refine k_arr (v := 14) (N' := 14) hC hin kf_X3_27 rfl hK hP hD hS hA ko_3 hl0 rfl (by decide) rfl (by decide) ⟨Nat.le_of_ble_eq_true rfl, Nat.le_of_ble_eq_true rfl⟩ dX3_init_44 dX3_init_45 dX3_init_47 dX3_init_49 (fun q6 H locs hP hD hS => ?_)
  have hP : va_P D CL ((h0, .inr (3, [.ref q1, .ref q2, .ref q3, .ref q4, .ref q5, .ref q6, .null, .null, .int 0, .int 0])) :: [(q1, .inl (cI, 14, .inl (fun _ => 0))), (q2, .inl (cI, 14, .inl (fun _ => 0))), (q3, .inl (cI, 14, .inl (fun _ => 0))), (q4, .inl (cI, 14, .inl (fun _ => 0))), (q5, .inl (cI, 14, .inl (fun _ => 0))), (q6, .inl (cI, 14, .inl (fun _ => 0)))]) H := hP
  have hD : va_D A ((h0, .inr (3, [.ref q1, .ref q2, .ref q3, .ref q4, .ref q5, .ref q6, .null, .null, .int 0, .int 0])) :: [(q1, .inl (cI, 14, .inl (fun _ => 0))), (q2, .inl (cI, 14, .inl (fun _ => 0))), (q3, .inl (cI, 14, .inl (fun _ => 0))), (q4, .inl (cI, 14, .inl (fun _ => 0))), (q5, .inl (cI, 14, .inl (fun _ => 0))), (q6, .inl (cI, 14, .inl (fun _ => 0)))]) := hD
  refine k_arr (v := 14) (N' := 14) hC hin kf_X3_30 rfl hK hP hD hS hA ko_3 hl0 rfl (by decide) rfl (by decide) ⟨Nat.le_of_ble_eq_true rfl, Nat.le_of_ble_eq_true rfl⟩ dX3_init_52 dX3_init_53 dX3_init_55 dX3_init_57 (fun q7 H locs hP hD hS => ?_)
  have hP : va_P D CL ((h0, .inr (3, [.ref q1, .ref q2, .ref q3, .ref q4, .ref q5, .ref q6, .ref q7, .null, .int 0, .int 0])) :: [(q1, .inl (cI, 14, .inl (fun _ => 0))), (q2, .inl (cI, 14, .inl (fun _ => 0))), (q3, .inl (cI, 14, .inl (fun _ => 0))), (q4, .inl (cI, 14, .inl (fun _ => 0))), (q5, .inl (cI, 14, .inl (fun _ => 0))), (q6, .inl (cI, 14, .inl (fun _ => 0))), (q7, .inl (cI, 14, .inl (fun _ => 0)))]) H := hP
  have hD : va_D A ((h0, .inr (3, [.ref q1, .ref q2, .ref q3, .ref q4, .ref q5, .ref q6, .ref q7, .null, .int 0, .int 0])) :: [(q1, .inl (cI, 14, .inl (fun _ => 0))), (q2, .inl (cI, 14, .inl (fun _ => 0))), (q3, .inl (cI, 14, .inl (fun _ => 0))), (q4, .inl (cI, 14, .inl (fun _ => 0))), (q5, .inl (cI, 14, .inl (fun _ => 0))), (q6, .inl (cI, 14, .inl (fun _ => 0))), (q7, .inl (cI, 14, .inl (fun _ => 0)))]) := hD
  refine k_arr (v := 14) (N' := 14) hC hin kf_X3_33 rfl hK hP hD hS hA ko_3 hl0 rfl (by decide) rfl (by decide) ⟨Nat.le_of_ble_eq_true rfl, Nat.le_of_ble_eq_true rfl⟩ dX3_init_60 dX3_init_61 dX3_init_63 dX3_init_65 (fun q8 H locs hP hD hS => ?_)
  have hP : va_P D CL ((h0, .inr (3, [.ref q1, .ref q2, .ref q3, .ref q4, .ref q5, .ref q6, .ref q7, .ref q8, .int 0, .int 0])) :: [(q1, .inl (cI, 14, .inl (fun _ => 0))), (q2, .inl (cI, 14, .inl (fun _ => 0))), (q3, .inl (cI, 14, .inl (fun _ => 0))), (q4, .inl (cI, 14, .inl (fun _ => 0))), (q5, .inl (cI, 14, .inl (fun _ => 0))), (q6, .inl (cI, 14, .inl (fun _ => 0))), (q7, .inl (cI, 14, .inl (fun _ => 0))), (q8, .inl (cI, 14, .inl (fun _ => 0)))]) H := hP
  have hD : va_D A ((h0, .inr (3, [.ref q1, .ref q2, .ref q3, .ref q4, .ref q5, .ref q6, .ref q7, .ref q8, .int 0, .int 0])) :: [(q1, .inl (cI, 14, .inl (fun _ => 0))), (q2, .inl (cI, 14, .inl (fun _ => 0))), (q3, .inl (cI, 14, .inl (fun _ => 0))), (q4, .inl (cI, 14, .inl (fun _ => 0))), (q5, .inl (cI, 14, .inl (fun _ => 0))), (q6, .inl (cI, 14, .inl (fun _ => 0))), (q7, .inl (cI, 14, .inl (fun _ => 0))), (q8, .inl (cI, 14, .inl (fun _ => 0)))]) := hD
  refine W.widen (k := 8) (n := 112) (Nat.le_of_ble_eq_true rfl) (Nat.le_of_ble_eq_true rfl) ?_
  exact W.vret hC.1 hC.2.1 (hC.2.2.1.trans rfl) (fun t ht hW => ⟨rfl, ⟨fun i => [h0, q1, q2, q3, q4, q5, q6, q7, q8].getD i 0, rfl, by rw [ht, x_w_eq]; exact hP, by rw [x_w_eq]; exact hD⟩, hS.F ht⟩) hS.2.2 dX3_init_68 hC.2.2.2.2.2.1
theorem kc_X4 : KC false yX4_init m_X4_init 1 1 20 4 [.null, .int 0] shX4 σ0 := by
  refine k_con (by decide) rfl rfl rfl rfl ?_
  intro p l e s m args below meth c D cI h0 A ls hC hin hK hP hD hS hA hN hls hl0
  refine k_obj hC ko_X4 ko_1 ko_2 hl0 hls ⟨Nat.le_of_ble_eq_true rfl, Nat.le_of_ble_eq_true rfl⟩ dX4_init_0 dX4_init_1 ?_
  refine k_arr (v := 20) (N' := 20) hC hin kf_X4_9 rfl hK hP hD hS hA ko_3 hl0 rfl (by decide) rfl (by decide) ⟨Nat.le_of_ble_eq_true rfl, Nat.le_of_ble_eq_true rfl⟩ dX4_init_4 dX4_init_5 dX4_init_7 dX4_init_9 (fun q1 H locs hP hD hS => ?_)
  have hP : va_P D CL ((h0, .inr (4, [.ref q1, .int 0])) :: [(q1, .inl (cI, 20, .inl (fun _ => 0)))]) H := hP
  have hD : va_D A ((h0, .inr (4, [.ref q1, .int 0])) :: [(q1, .inl (cI, 20, .inl (fun _ => 0)))]) := hD
  refine W.widen (k := 1) (n := 20) (Nat.le_of_ble_eq_true rfl) (Nat.le_of_ble_eq_true rfl) ?_
  exact W.vret hC.1 hC.2.1 (hC.2.2.1.trans rfl) (fun t ht hW => ⟨rfl, ⟨fun i => [h0, q1].getD i 0, rfl, by rw [ht, x_w_eq]; exact hP, by rw [x_w_eq]; exact hD⟩, hS.F ht⟩) hS.2.2 dX4_init_12 hC.2.2.2.2.2.1
theorem kc_X5 : KC false yX5_init m_X5_init 1 2 16 5 [.null, .null, .int 0, .int 0] shX5 σ0 := by
  refine k_con (by decide) rfl rfl rfl rfl ?_
  intro p l e s m args below meth c D cI h0 A ls hC hin hK hP hD hS hA hN hls hl0
  refine k_obj hC ko_X5 ko_1 ko_2 hl0 hls ⟨Nat.le_of_ble_eq_true rfl, Nat.le_of_ble_eq_true rfl⟩ dX5_init_0 dX5_init_1 ?_
  refine k_arr (v := 8) (N' := 8) hC hin kf_X5_9 rfl hK hP hD hS hA ko_3 hl0 rfl (by decide) rfl (by decide) ⟨Nat.le_of_ble_eq_true rfl, Nat.le_of_ble_eq_true rfl⟩ dX5_init_4 dX5_init_5 dX5_init_7 dX5_init_9 (fun q1 H locs hP hD hS => ?_)
  have hP : va_P D CL ((h0, .inr (5, [.ref q1, .null, .int 0, .int 0])) :: [(q1, .inl (cI, 8, .inl (fun _ => 0)))]) H := hP
  have hD : va_D A ((h0, .inr (5, [.ref q1, .null, .int 0, .int 0])) :: [(q1, .inl (cI, 8, .inl (fun _ => 0)))]) := hD
  refine k_arr (v := 8) (N' := 8) hC hin kf_X5_15 rfl hK hP hD hS hA ko_3 hl0 rfl (by decide) rfl (by decide) ⟨Nat.le_of_ble_eq_true rfl, Nat.le_of_ble_eq_true rfl⟩ dX5_init_12 dX5_init_13 dX5_init_15 dX5_init_17 (fun q2 H locs hP hD hS => ?_)
  have hP : va_P D CL ((h0, .inr (5, [.ref q1, .ref q2, .int 0, .int 0])) :: [(q1, .inl (cI, 8, .inl (fun _ => 0))), (q2, .inl (cI, 8, .inl (fun _ => 0)))]) H := hP
  have hD : va_D A ((h0, .inr (5, [.ref q1, .ref q2, .int 0, .int 0])) :: [(q1, .inl (cI, 8, .inl (fun _ => 0))), (q2, .inl (cI, 8, .inl (fun _ => 0)))]) := hD
  refine W.widen (k := 2) (n := 16) (Nat.le_of_ble_eq_true rfl) (Nat.le_of_ble_eq_true rfl) ?_
  exact W.vret hC.1 hC.2.1 (hC.2.2.1.trans rfl) (fun t ht hW => ⟨rfl, ⟨fun i => [h0, q1, q2].getD i 0, rfl, by rw [ht, x_w_eq]; exact hP, by rw [x_w_eq]; exact hD⟩, hS.F ht⟩) hS.2.2 dX5_init_20 hC.2.2.2.2.2.1
theorem kc_X7 : KC false yX7_init m_X7_init 1 11 163 7 [.int 0, .null, .int 0, .int 0, .int 0, .null, .null, .null, .null, .null, .null, .int 0, .null, .int 0, .int 0, .null, .int 0, .int 0, .null, .null, .long 0] shM σ0 := by
  refine k_con (by decide) rfl rfl rfl rfl ?_
  intro p l e s m args below meth c D cI h0 A ls hC hin hK hP hD hS hA hN hls hl0
  refine k_obj hC ko_X7 ko_1 ko_2 hl0 hls ⟨Nat.le_of_ble_eq_true rfl, Nat.le_of_ble_eq_true rfl⟩ dX7_init_0 dX7_init_1 ?_
  refine k_arr (v := 16) (N' := 16) hC hin kf_X7_7 rfl hK hP hD hS hA ko_3 hl0 rfl (by decide) rfl (by decide) ⟨Nat.le_of_ble_eq_true rfl, Nat.le_of_ble_eq_true rfl⟩ dX7_init_4 dX7_init_5 dX7_init_7 dX7_init_9 (fun q1 H locs hP hD hS => ?_)
  have hP : va_P D CL ((h0, .inr (7, [.int 0, .ref q1, .int 0, .int 0, .int 0, .null, .null, .null, .null, .null, .null, .int 0, .null, .int 0, .int 0, .null, .int 0, .int 0, .null, .null, .long 0])) :: [(q1, .inl (cI, 16, .inl (fun _ => 0)))]) H := hP
  have hD : va_D A ((h0, .inr (7, [.int 0, .ref q1, .int 0, .int 0, .int 0, .null, .null, .null, .null, .null, .null, .int 0, .null, .int 0, .int 0, .null, .int 0, .int 0, .null, .null, .long 0])) :: [(q1, .inl (cI, 16, .inl (fun _ => 0)))]) := hD
  refine k_arr (v := 14) (N' := 14) hC hin kf_X7_13 rfl hK hP hD hS hA ko_3 hl0 rfl (by decide) rfl (by decide) ⟨Nat.le_of_ble_eq_true rfl, Nat.le_of_ble_eq_true rfl⟩ dX7_init_12 dX7_init_13 dX7_init_15 dX7_init_17 (fun q2 H locs hP hD hS => ?_)
  have hP : va_P D CL ((h0, .inr (7, [.int 0, .ref q1, .int 0, .int 0, .int 0, .ref q2, .null, .null, .null, .null, .null, .int 0, .null, .int 0, .int 0, .null, .int 0, .int 0, .null, .null, .long 0])) :: [(q1, .inl (cI, 16, .inl (fun _ => 0))), (q2, .inl (cI, 14, .inl (fun _ => 0)))]) H := hP
  have hD : va_D A ((h0, .inr (7, [.int 0, .ref q1, .int 0, .int 0, .int 0, .ref q2, .null, .null, .null, .null, .null, .int 0, .null, .int 0, .int 0, .null, .int 0, .int 0, .null, .null, .long 0])) :: [(q1, .inl (cI, 16, .inl (fun _ => 0))), (q2, .inl (cI, 14, .inl (fun _ => 0)))]) := hD
  refine k_arr (v := 14) (N' := 14) hC hin kf_X7_16 rfl hK hP hD hS hA ko_3 hl0 rfl (by decide) rfl (by decide) ⟨Nat.le_of_ble_eq_true rfl, Nat.le_of_ble_eq_true rfl⟩ dX7_init_20 dX7_init_21 dX7_init_23 dX7_init_25 (fun q3 H locs hP hD hS => ?_)
  have hP : va_P D CL ((h0, .inr (7, [.int 0, .ref q1, .int 0, .int 0, .int 0, .ref q2, .ref q3, .null, .null, .null, .null, .int 0, .null, .int 0, .int 0, .null, .int 0, .int 0, .null, .null, .long 0])) :: [(q1, .inl (cI, 16, .inl (fun _ => 0))), (q2, .inl (cI, 14, .inl (fun _ => 0))), (q3, .inl (cI, 14, .inl (fun _ => 0)))]) H := hP
  have hD : va_D A ((h0, .inr (7, [.int 0, .ref q1, .int 0, .int 0, .int 0, .ref q2, .ref q3, .null, .null, .null, .null, .int 0, .null, .int 0, .int 0, .null, .int 0, .int 0, .null, .null, .long 0])) :: [(q1, .inl (cI, 16, .inl (fun _ => 0))), (q2, .inl (cI, 14, .inl (fun _ => 0))), (q3, .inl (cI, 14, .inl (fun _ => 0)))]) := hD
  refine k_arr (v := 14) (N' := 14) hC hin kf_X7_19 rfl hK hP hD hS hA ko_3 hl0 rfl (by decide) rfl (by decide) ⟨Nat.le_of_ble_eq_true rfl, Nat.le_of_ble_eq_true rfl⟩ dX7_init_28 dX7_init_29 dX7_init_31 dX7_init_33 (fun q4 H locs hP hD hS => ?_)
  have hP : va_P D CL ((h0, .inr (7, [.int 0, .ref q1, .int 0, .int 0, .int 0, .ref q2, .ref q3, .ref q4, .null, .null, .null, .int 0, .null, .int 0, .int 0, .null, .int 0, .int 0, .null, .null, .long 0])) :: [(q1, .inl (cI, 16, .inl (fun _ => 0))), (q2, .inl (cI, 14, .inl (fun _ => 0))), (q3, .inl (cI, 14, .inl (fun _ => 0))), (q4, .inl (cI, 14, .inl (fun _ => 0)))]) H := hP
  have hD : va_D A ((h0, .inr (7, [.int 0, .ref q1, .int 0, .int 0, .int 0, .ref q2, .ref q3, .ref q4, .null, .null, .null, .int 0, .null, .int 0, .int 0, .null, .int 0, .int 0, .null, .null, .long 0])) :: [(q1, .inl (cI, 16, .inl (fun _ => 0))), (q2, .inl (cI, 14, .inl (fun _ => 0))), (q3, .inl (cI, 14, .inl (fun _ => 0))), (q4, .inl (cI, 14, .inl (fun _ => 0)))]) := hD
  refine k_arr (v := 14) (N' := 14) hC hin kf_X7_22 rfl hK hP hD hS hA ko_3 hl0 rfl (by decide) rfl (by decide) ⟨Nat.le_of_ble_eq_true rfl, Nat.le_of_ble_eq_true rfl⟩ dX7_init_36 dX7_init_37 dX7_init_39 dX7_init_41 (fun q5 H locs hP hD hS => ?_)
  have hP : va_P D CL ((h0, .inr (7, [.int 0, .ref q1, .int 0, .int 0, .int 0, .ref q2, .ref q3, .ref q4, .ref q5, .null, .null, .int 0, .null, .int 0, .int 0, .null, .int 0, .int 0, .null, .null, .long 0])) :: [(q1, .inl (cI, 16, .inl (fun _ => 0))), (q2, .inl (cI, 14, .inl (fun _ => 0))), (q3, .inl (cI, 14, .inl (fun _ => 0))), (q4, .inl (cI, 14, .inl (fun _ => 0))), (q5, .inl (cI, 14, .inl (fun _ => 0)))]) H := hP
  have hD : va_D A ((h0, .inr (7, [.int 0, .ref q1, .int 0, .int 0, .int 0, .ref q2, .ref q3, .ref q4, .ref q5, .null, .null, .int 0, .null, .int 0, .int 0, .null, .int 0, .int 0, .null, .null, .long 0])) :: [(q1, .inl (cI, 16, .inl (fun _ => 0))), (q2, .inl (cI, 14, .inl (fun _ => 0))), (q3, .inl (cI, 14, .inl (fun _ => 0))), (q4, .inl (cI, 14, .inl (fun _ => 0))), (q5, .inl (cI, 14, .inl (fun _ => 0)))]) := hD
  refine k_arr (v := 14) (N' := 14) hC hin kf_X7_25 rfl hK hP hD hS hA ko_3 hl0 rfl (by decide) rfl (by decide) ⟨Nat.le_of_ble_eq_true rfl, Nat.le_of_ble_eq_true rfl⟩ dX7_init_44 dX7_init_45 dX7_init_47 dX7_init_49 (fun q6 H locs hP hD hS => ?_)
  have hP : va_P D CL ((h0, .inr (7, [.int 0, .ref q1, .int 0, .int 0, .int 0, .ref q2, .ref q3, .ref q4, .ref q5, .ref q6, .null, .int 0, .null, .int 0, .int 0, .null, .int 0, .int 0, .null, .null, .long 0])) :: [(q1, .inl (cI, 16, .inl (fun _ => 0))), (q2, .inl (cI, 14, .inl (fun _ => 0))), (q3, .inl (cI, 14, .inl (fun _ => 0))), (q4, .inl (cI, 14, .inl (fun _ => 0))), (q5, .inl (cI, 14, .inl (fun _ => 0))), (q6, .inl (cI, 14, .inl (fun _ => 0)))]) H := hP
  have hD : va_D A ((h0, .inr (7, [.int 0, .ref q1, .int 0, .int 0, .int 0, .ref q2, .ref q3, .ref q4, .ref q5, .ref q6, .null, .int 0, .null, .int 0, .int 0, .null, .int 0, .int 0, .null, .null, .long 0])) :: [(q1, .inl (cI, 16, .inl (fun _ => 0))), (q2, .inl (cI, 14, .inl (fun _ => 0))), (q3, .inl (cI, 14, .inl (fun _ => 0))), (q4, .inl (cI, 14, .inl (fun _ => 0))), (q5, .inl (cI, 14, .inl (fun _ => 0))), (q6, .inl (cI, 14, .inl (fun _ => 0)))]) := hD
  refine k_arr (v := 14) (N' := 14) hC hin kf_X7_28 rfl hK hP hD hS hA ko_3 hl0 rfl (by decide) rfl (by decide) ⟨Nat.le_of_ble_eq_true rfl, Nat.le_of_ble_eq_true rfl⟩ dX7_init_52 dX7_init_53 dX7_init_55 dX7_init_57 (fun q7 H locs hP hD hS => ?_)
  have hP : va_P D CL ((h0, .inr (7, [.int 0, .ref q1, .int 0, .int 0, .int 0, .ref q2, .ref q3, .ref q4, .ref q5, .ref q6, .ref q7, .int 0, .null, .int 0, .int 0, .null, .int 0, .int 0, .null, .null, .long 0])) :: [(q1, .inl (cI, 16, .inl (fun _ => 0))), (q2, .inl (cI, 14, .inl (fun _ => 0))), (q3, .inl (cI, 14, .inl (fun _ => 0))), (q4, .inl (cI, 14, .inl (fun _ => 0))), (q5, .inl (cI, 14, .inl (fun _ => 0))), (q6, .inl (cI, 14, .inl (fun _ => 0))), (q7, .inl (cI, 14, .inl (fun _ => 0)))]) H := hP
  have hD : va_D A ((h0, .inr (7, [.int 0, .ref q1, .int 0, .int 0, .int 0, .ref q2, .ref q3, .ref q4, .ref q5, .ref q6, .ref q7, .int 0, .null, .int 0, .int 0, .null, .int 0, .int 0, .null, .null, .long 0])) :: [(q1, .inl (cI, 16, .inl (fun _ => 0))), (q2, .inl (cI, 14, .inl (fun _ => 0))), (q3, .inl (cI, 14, .inl (fun _ => 0))), (q4, .inl (cI, 14, .inl (fun _ => 0))), (q5, .inl (cI, 14, .inl (fun _ => 0))), (q6, .inl (cI, 14, .inl (fun _ => 0))), (q7, .inl (cI, 14, .inl (fun _ => 0)))]) := hD
  refine k_arr (v := 14) (N' := 14) hC hin kf_X7_31 rfl hK hP hD hS hA ko_3 hl0 rfl (by decide) rfl (by decide) ⟨Nat.le_of_ble_eq_true rfl, Nat.le_of_ble_eq_true rfl⟩ dX7_init_60 dX7_init_61 dX7_init_63 dX7_init_65 (fun q8 H locs hP hD hS => ?_)
  have hP : va_P D CL ((h0, .inr (7, [.int 0, .ref q1, .int 0, .int 0, .int 0, .ref q2, .ref q3, .ref q4, .ref q5, .ref q6, .ref q7, .int 0, .ref q8, .int 0, .int 0, .null, .int 0, .int 0, .null, .null, .long 0])) :: [(q1, .inl (cI, 16, .inl (fun _ => 0))), (q2, .inl (cI, 14, .inl (fun _ => 0))), (q3, .inl (cI, 14, .inl (fun _ => 0))), (q4, .inl (cI, 14, .inl (fun _ => 0))), (q5, .inl (cI, 14, .inl (fun _ => 0))), (q6, .inl (cI, 14, .inl (fun _ => 0))), (q7, .inl (cI, 14, .inl (fun _ => 0))), (q8, .inl (cI, 14, .inl (fun _ => 0)))]) H := hP
  have hD : va_D A ((h0, .inr (7, [.int 0, .ref q1, .int 0, .int 0, .int 0, .ref q2, .ref q3, .ref q4, .ref q5, .ref q6, .ref q7, .int 0, .ref q8, .int 0, .int 0, .null, .int 0, .int 0, .null, .null, .long 0])) :: [(q1, .inl (cI, 16, .inl (fun _ => 0))), (q2, .inl (cI, 14, .inl (fun _ => 0))), (q3, .inl (cI, 14, .inl (fun _ => 0))), (q4, .inl (cI, 14, .inl (fun _ => 0))), (q5, .inl (cI, 14, .inl (fun _ => 0))), (q6, .inl (cI, 14, .inl (fun _ => 0))), (q7, .inl (cI, 14, .inl (fun _ => 0))), (q8, .inl (cI, 14, .inl (fun _ => 0)))]) := hD
  refine k_arr (v := 20) (N' := 20) hC hin kf_X7_34 rfl hK hP hD hS hA ko_3 hl0 rfl (by decide) rfl (by decide) ⟨Nat.le_of_ble_eq_true rfl, Nat.le_of_ble_eq_true rfl⟩ dX7_init_68 dX7_init_69 dX7_init_71 dX7_init_73 (fun q9 H locs hP hD hS => ?_)
  have hP : va_P D CL ((h0, .inr (7, [.int 0, .ref q1, .int 0, .int 0, .int 0, .ref q2, .ref q3, .ref q4, .ref q5, .ref q6, .ref q7, .int 0, .ref q8, .int 0, .int 0, .ref q9, .int 0, .int 0, .null, .null, .long 0])) :: [(q1, .inl (cI, 16, .inl (fun _ => 0))), (q2, .inl (cI, 14, .inl (fun _ => 0))), (q3, .inl (cI, 14, .inl (fun _ => 0))), (q4, .inl (cI, 14, .inl (fun _ => 0))), (q5, .inl (cI, 14, .inl (fun _ => 0))), (q6, .inl (cI, 14, .inl (fun _ => 0))), (q7, .inl (cI, 14, .inl (fun _ => 0))), (q8, .inl (cI, 14, .inl (fun _ => 0))), (q9, .inl (cI, 20, .inl (fun _ => 0)))]) H := hP
  have hD : va_D A ((h0, .inr (7, [.int 0, .ref q1, .int 0, .int 0, .int 0, .ref q2, .ref q3, .ref q4, .ref q5, .ref q6, .ref q7, .int 0, .ref q8, .int 0, .int 0, .ref q9, .int 0, .int 0, .null, .null, .long 0])) :: [(q1, .inl (cI, 16, .inl (fun _ => 0))), (q2, .inl (cI, 14, .inl (fun _ => 0))), (q3, .inl (cI, 14, .inl (fun _ => 0))), (q4, .inl (cI, 14, .inl (fun _ => 0))), (q5, .inl (cI, 14, .inl (fun _ => 0))), (q6, .inl (cI, 14, .inl (fun _ => 0))), (q7, .inl (cI, 14, .inl (fun _ => 0))), (q8, .inl (cI, 14, .inl (fun _ => 0))), (q9, .inl (cI, 20, .inl (fun _ => 0)))]) := hD
  refine k_arr (v := 15) (N' := 15) hC hin kf_X7_37 rfl hK hP hD hS hA ko_3 hl0 rfl (by decide) rfl (by decide) ⟨Nat.le_of_ble_eq_true rfl, Nat.le_of_ble_eq_true rfl⟩ dX7_init_76 dX7_init_77 dX7_init_79 dX7_init_81 (fun q10 H locs hP hD hS => ?_)
  have hP : va_P D CL ((h0, .inr (7, [.int 0, .ref q1, .int 0, .int 0, .int 0, .ref q2, .ref q3, .ref q4, .ref q5, .ref q6, .ref q7, .int 0, .ref q8, .int 0, .int 0, .ref q9, .int 0, .int 0, .ref q10, .null, .long 0])) :: [(q1, .inl (cI, 16, .inl (fun _ => 0))), (q2, .inl (cI, 14, .inl (fun _ => 0))), (q3, .inl (cI, 14, .inl (fun _ => 0))), (q4, .inl (cI, 14, .inl (fun _ => 0))), (q5, .inl (cI, 14, .inl (fun _ => 0))), (q6, .inl (cI, 14, .inl (fun _ => 0))), (q7, .inl (cI, 14, .inl (fun _ => 0))), (q8, .inl (cI, 14, .inl (fun _ => 0))), (q9, .inl (cI, 20, .inl (fun _ => 0))), (q10, .inl (cI, 15, .inl (fun _ => 0)))]) H := hP
  have hD : va_D A ((h0, .inr (7, [.int 0, .ref q1, .int 0, .int 0, .int 0, .ref q2, .ref q3, .ref q4, .ref q5, .ref q6, .ref q7, .int 0, .ref q8, .int 0, .int 0, .ref q9, .int 0, .int 0, .ref q10, .null, .long 0])) :: [(q1, .inl (cI, 16, .inl (fun _ => 0))), (q2, .inl (cI, 14, .inl (fun _ => 0))), (q3, .inl (cI, 14, .inl (fun _ => 0))), (q4, .inl (cI, 14, .inl (fun _ => 0))), (q5, .inl (cI, 14, .inl (fun _ => 0))), (q6, .inl (cI, 14, .inl (fun _ => 0))), (q7, .inl (cI, 14, .inl (fun _ => 0))), (q8, .inl (cI, 14, .inl (fun _ => 0))), (q9, .inl (cI, 20, .inl (fun _ => 0))), (q10, .inl (cI, 15, .inl (fun _ => 0)))]) := hD
  refine k_arr (v := 14) (N' := 14) hC hin kf_X7_40 rfl hK hP hD hS hA ko_3 hl0 rfl (by decide) rfl (by decide) ⟨Nat.le_of_ble_eq_true rfl, Nat.le_of_ble_eq_true rfl⟩ dX7_init_84 dX7_init_85 dX7_init_87 dX7_init_89 (fun q11 H locs hP hD hS => ?_)
  have hP : va_P D CL ((h0, .inr (7, [.int 0, .ref q1, .int 0, .int 0, .int 0, .ref q2, .ref q3, .ref q4, .ref q5, .ref q6, .ref q7, .int 0, .ref q8, .int 0, .int 0, .ref q9, .int 0, .int 0, .ref q10, .ref q11, .long 0])) :: [(q1, .inl (cI, 16, .inl (fun _ => 0))), (q2, .inl (cI, 14, .inl (fun _ => 0))), (q3, .inl (cI, 14, .inl (fun _ => 0))), (q4, .inl (cI, 14, .inl (fun _ => 0))), (q5, .inl (cI, 14, .inl (fun _ => 0))), (q6, .inl (cI, 14, .inl (fun _ => 0))), (q7, .inl (cI, 14, .inl (fun _ => 0))), (q8, .inl (cI, 14, .inl (fun _ => 0))), (q9, .inl (cI, 20, .inl (fun _ => 0))), (q10, .inl (cI, 15, .inl (fun _ => 0))), (q11, .inl (cI, 14, .inl (fun _ => 0)))]) H := hP
  have hD : va_D A ((h0, .inr (7, [.int 0, .ref q1, .int 0, .int 0, .int 0, .ref q2, .ref q3, .ref q4, .ref q5, .ref q6, .ref q7, .int 0, .ref q8, .int 0, .int 0, .ref q9, .int 0, .int 0, .ref q10, .ref q11, .long 0])) :: [(q1, .inl (cI, 16, .inl (fun _ => 0))), (q2, .inl (cI, 14, .inl (fun _ => 0))), (q3, .inl (cI, 14, .inl (fun _ => 0))), (q4, .inl (cI, 14, .inl (fun _ => 0))), (q5, .inl (cI, 14, .inl (fun _ => 0))), (q6, .inl (cI, 14, .inl (fun _ => 0))), (q7, .inl (cI, 14, .inl (fun _ => 0))), (q8, .inl (cI, 14, .inl (fun _ => 0))), (q9, .inl (cI, 20, .inl (fun _ => 0))), (q10, .inl (cI, 15, .inl (fun _ => 0))), (q11, .inl (cI, 14, .inl (fun _ => 0)))]) := hD
  refine W.widen (k := 11) (n := 163) (Nat.le_of_ble_eq_true rfl) (Nat.le_of_ble_eq_true rfl) ?_
  exact W.vret hC.1 hC.2.1 (hC.2.2.1.trans rfl) (fun t ht hW => ⟨rfl, ⟨fun i => [h0, q1, q2, q3, q4, q5, q6, q7, q8, q9, q10, q11].getD i 0, rfl, by rw [ht, x_w_eq]; exact hP, by rw [x_w_eq]; exact hD⟩, hS.F ht⟩) hS.2.2 dX7_init_92 hC.2.2.2.2.2.1
set_option maxHeartbeats 8000000 in
theorem kc_X6 : KC true yX6_init m_X6_init 2 29 335 6 [.null, .null, .null, .null, .null, .null, .null, .int 0, .int 0, .int 0] shC σC := by
  refine k_con (by decide) rfl rfl rfl rfl ?_
  intro p l e s m args below meth c D cI h0 A ls hC hin hK hP hD hS hA hN hls hl0
  refine k_obj hC ko_X6 ko_1 ko_2 hl0 hls ⟨Nat.le_of_ble_eq_true rfl, Nat.le_of_ble_eq_true rfl⟩ dX6_init_0 dX6_init_1 ?_
  refine lv_aload_n hC.1 hC.2.1 dX6_init_4 rfl hl0 ?_
  refine k_new hC kc_X4 x_N.f kk_X4 kl_X4 (Or.inr ⟨_, (hN rfl).1⟩) hK hP hD hS hA hls rfl ⟨Nat.le_of_ble_eq_true rfl, Nat.le_of_ble_eq_true rfl⟩ ⟨Nat.le_of_ble_eq_true rfl, Nat.le_of_ble_eq_true rfl⟩ dX6_init_5 dX6_init_8 dX6_init_9 (fun a1 H locs hP hD hS => ?_)
  refine k_put hC hin kf_X6_10 rfl rfl rfl hK hP hD hS dX6_init_12 (fun H locs hP hD hS => ?_)
  have hP : va_P D CL ((h0, .inr (6, [.ref (a1 0), .null, .null, .null, .null, .null, .null, .int 0, .int 0, .int 0])) :: ([] ++ x_w a1 cI shX4 σ0)) H := hP
  have hD : va_D A ((h0, .inr (6, [.ref (a1 0), .null, .null, .null, .null, .null, .null, .int 0, .int 0, .int 0])) :: ([] ++ x_w a1 cI shX4 σ0)) := hD
  refine lv_aload_n hC.1 hC.2.1 dX6_init_15 rfl hl0 ?_
  refine k_new hC kc_X0 x_N.f kk_X0 kl_X0 (Or.inr ⟨_, (hN rfl).2.1⟩) hK hP hD hS hA hls rfl ⟨Nat.le_of_ble_eq_true rfl, Nat.le_of_ble_eq_true rfl⟩ ⟨Nat.le_of_ble_eq_true rfl, Nat.le_of_ble_eq_true rfl⟩ dX6_init_16 dX6_init_19 dX6_init_20 (fun a2 H locs hP hD hS => ?_)
  refine k_put hC hin kf_X6_19 rfl rfl rfl hK hP hD hS dX6_init_23 (fun H locs hP hD hS => ?_)
  have hP : va_P D CL ((h0, .inr (6, [.ref (a1 0), .ref (a2 0), .null, .null, .null, .null, .null, .int 0, .int 0, .int 0])) :: (([] ++ x_w a1 cI shX4 σ0) ++ x_w a2 cI shX0 σ0)) H := hP
  have hD : va_D A ((h0, .inr (6, [.ref (a1 0), .ref (a2 0), .null, .null, .null, .null, .null, .int 0, .int 0, .int 0])) :: (([] ++ x_w a1 cI shX4 σ0) ++ x_w a2 cI shX0 σ0)) := hD
  refine lv_aload_n hC.1 hC.2.1 dX6_init_26 rfl hl0 ?_
  refine k_new hC kc_X3 x_N.f kk_X3 kl_X3 (Or.inr ⟨_, (hN rfl).2.2.1⟩) hK hP hD hS hA hls rfl ⟨Nat.le_of_ble_eq_true rfl, Nat.le_of_ble_eq_true rfl⟩ ⟨Nat.le_of_ble_eq_true rfl, Nat.le_of_ble_eq_true rfl⟩ dX6_init_27 dX6_init_30 dX6_init_31 (fun a3 H locs hP hD hS => ?_)
  refine k_put hC hin kf_X6_26 rfl rfl rfl hK hP hD hS dX6_init_34 (fun H locs hP hD hS => ?_)
  have hP : va_P D CL ((h0, .inr (6, [.ref (a1 0), .ref (a2 0), .ref (a3 0), .null, .null, .null, .null, .int 0, .int 0, .int 0])) :: ((([] ++ x_w a1 cI shX4 σ0) ++ x_w a2 cI shX0 σ0) ++ x_w a3 cI shX3 σ0)) H := hP
  have hD : va_D A ((h0, .inr (6, [.ref (a1 0), .ref (a2 0), .ref (a3 0), .null, .null, .null, .null, .int 0, .int 0, .int 0])) :: ((([] ++ x_w a1 cI shX4 σ0) ++ x_w a2 cI shX0 σ0) ++ x_w a3 cI shX3 σ0)) := hD
  refine lv_aload_n hC.1 hC.2.1 dX6_init_37 rfl hl0 ?_
  refine k_new hC kc_X3 x_N.f kk_X3 kl_X3 (Or.inr ⟨_, (hN rfl).2.2.1⟩) hK hP hD hS hA hls rfl ⟨Nat.le_of_ble_eq_true rfl, Nat.le_of_ble_eq_true rfl⟩ ⟨Nat.le_of_ble_eq_true rfl, Nat.le_of_ble_eq_true rfl⟩ dX6_init_38 dX6_init_41 dX6_init_42 (fun a4 H locs hP hD hS => ?_)
  refine k_put hC hin kf_X6_30 rfl rfl rfl hK hP hD hS dX6_init_45 (fun H locs hP hD hS => ?_)
  have hP : va_P D CL ((h0, .inr (6, [.ref (a1 0), .ref (a2 0), .ref (a3 0), .ref (a4 0), .null, .null, .null, .int 0, .int 0, .int 0])) :: (((([] ++ x_w a1 cI shX4 σ0) ++ x_w a2 cI shX0 σ0) ++ x_w a3 cI shX3 σ0) ++ x_w a4 cI shX3 σ0)) H := hP
  have hD : va_D A ((h0, .inr (6, [.ref (a1 0), .ref (a2 0), .ref (a3 0), .ref (a4 0), .null, .null, .null, .int 0, .int 0, .int 0])) :: (((([] ++ x_w a1 cI shX4 σ0) ++ x_w a2 cI shX0 σ0) ++ x_w a3 cI shX3 σ0) ++ x_w a4 cI shX3 σ0)) := hD
  refine lv_aload_n hC.1 hC.2.1 dX6_init_48 rfl hl0 ?_
  refine k_new hC kc_X2 x_N.f kk_X2 kl_X2 (Or.inr ⟨_, (hN rfl).2.2.2.1⟩) hK hP hD hS hA hls rfl ⟨Nat.le_of_ble_eq_true rfl, Nat.le_of_ble_eq_true rfl⟩ ⟨Nat.le_of_ble_eq_true rfl, Nat.le_of_ble_eq_true rfl⟩ dX6_init_49 dX6_init_52 dX6_init_53 (fun a5 H locs hP hD hS => ?_)
  refine k_put hC hin kf_X6_36 rfl rfl rfl hK hP hD hS dX6_init_56 (fun H locs hP hD hS => ?_)
  have hP : va_P D CL ((h0, .inr (6, [.ref (a1 0), .ref (a2 0), .ref (a3 0), .ref (a4 0), .ref (a5 0), .null, .null, .int 0, .int 0, .int 0])) :: ((((([] ++ x_w a1 cI shX4 σ0) ++ x_w a2 cI shX0 σ0) ++ x_w a3 cI shX3 σ0) ++ x_w a4 cI shX3 σ0) ++ x_w a5 cI shX2 σ0)) H := hP
  have hD : va_D A ((h0, .inr (6, [.ref (a1 0), .ref (a2 0), .ref (a3 0), .ref (a4 0), .ref (a5 0), .null, .null, .int 0, .int 0, .int 0])) :: ((((([] ++ x_w a1 cI shX4 σ0) ++ x_w a2 cI shX0 σ0) ++ x_w a3 cI shX3 σ0) ++ x_w a4 cI shX3 σ0) ++ x_w a5 cI shX2 σ0)) := hD
  refine lv_aload_n hC.1 hC.2.1 dX6_init_59 rfl hl0 ?_
  refine k_new hC kc_X5 x_N.f kk_X5 kl_X5 (Or.inr ⟨_, (hN rfl).2.2.2.2⟩) hK hP hD hS hA hls rfl ⟨Nat.le_of_ble_eq_true rfl, Nat.le_of_ble_eq_true rfl⟩ ⟨Nat.le_of_ble_eq_true rfl, Nat.le_of_ble_eq_true rfl⟩ dX6_init_60 dX6_init_63 dX6_init_64 (fun a6 H locs hP hD hS => ?_)
  refine k_put hC hin kf_X6_43 rfl rfl rfl hK hP hD hS dX6_init_67 (fun H locs hP hD hS => ?_)
  have hP : va_P D CL ((h0, .inr (6, [.ref (a1 0), .ref (a2 0), .ref (a3 0), .ref (a4 0), .ref (a5 0), .ref (a6 0), .null, .int 0, .int 0, .int 0])) :: (((((([] ++ x_w a1 cI shX4 σ0) ++ x_w a2 cI shX0 σ0) ++ x_w a3 cI shX3 σ0) ++ x_w a4 cI shX3 σ0) ++ x_w a5 cI shX2 σ0) ++ x_w a6 cI shX5 σ0)) H := hP
  have hD : va_D A ((h0, .inr (6, [.ref (a1 0), .ref (a2 0), .ref (a3 0), .ref (a4 0), .ref (a5 0), .ref (a6 0), .null, .int 0, .int 0, .int 0])) :: (((((([] ++ x_w a1 cI shX4 σ0) ++ x_w a2 cI shX0 σ0) ++ x_w a3 cI shX3 σ0) ++ x_w a4 cI shX3 σ0) ++ x_w a5 cI shX2 σ0) ++ x_w a6 cI shX5 σ0)) := hD
  refine lv_aload_n hC.1 hC.2.1 dX6_init_70 rfl hl0 ?_
  refine k_new hC kc_X1 x_N.f kk_X1 kl_X1 (Or.inl (xT_of 236 (by decide +kernel) (by decide +kernel))) hK hP hD hS hA hls rfl ⟨Nat.le_of_ble_eq_true rfl, Nat.le_of_ble_eq_true rfl⟩ ⟨Nat.le_of_ble_eq_true rfl, Nat.le_of_ble_eq_true rfl⟩ dX6_init_71 dX6_init_74 dX6_init_75 (fun a7 H locs hP hD hS => ?_)
  refine k_put hC hin kf_X6_50 rfl rfl rfl hK hP hD hS dX6_init_78 (fun H locs hP hD hS => ?_)
  have hP : va_P D CL ((h0, .inr (6, [.ref (a1 0), .ref (a2 0), .ref (a3 0), .ref (a4 0), .ref (a5 0), .ref (a6 0), .ref (a7 0), .int 0, .int 0, .int 0])) :: ((((((([] ++ x_w a1 cI shX4 σ0) ++ x_w a2 cI shX0 σ0) ++ x_w a3 cI shX3 σ0) ++ x_w a4 cI shX3 σ0) ++ x_w a5 cI shX2 σ0) ++ x_w a6 cI shX5 σ0) ++ x_w a7 cI shX1 σP)) H := hP
  have hD : va_D A ((h0, .inr (6, [.ref (a1 0), .ref (a2 0), .ref (a3 0), .ref (a4 0), .ref (a5 0), .ref (a6 0), .ref (a7 0), .int 0, .int 0, .int 0])) :: ((((((([] ++ x_w a1 cI shX4 σ0) ++ x_w a2 cI shX0 σ0) ++ x_w a3 cI shX3 σ0) ++ x_w a4 cI shX3 σ0) ++ x_w a5 cI shX2 σ0) ++ x_w a6 cI shX5 σ0) ++ x_w a7 cI shX1 σP)) := hD
  refine W.widen (k := 29) (n := 335) (Nat.le_of_ble_eq_true rfl) (Nat.le_of_ble_eq_true rfl) ?_
  have hP : va_P D CL (x_w (fun i => if i = 0 then h0 else if i < 3 then a1 (i - 1) else if i < 5 then a2 (i - 3) else if i < 14 then a3 (i - 5) else if i < 23 then a4 (i - 14) else if i < 25 then a5 (i - 23) else if i < 28 then a6 (i - 25) else a7 (i - 28)) cI shC σC) H := (w_C h0 a1 a2 a3 a4 a5 a6 a7 cI) ▸ hP
  have hD : va_D A (x_w (fun i => if i = 0 then h0 else if i < 3 then a1 (i - 1) else if i < 5 then a2 (i - 3) else if i < 14 then a3 (i - 5) else if i < 23 then a4 (i - 14) else if i < 25 then a5 (i - 23) else if i < 28 then a6 (i - 25) else a7 (i - 28)) cI shC σC) := (w_C h0 a1 a2 a3 a4 a5 a6 a7 cI) ▸ hD
  exact W.vret hC.1 hC.2.1 (hC.2.2.1.trans rfl) (fun t ht hW => ⟨rfl, ⟨fun i => if i = 0 then h0 else if i < 3 then a1 (i - 1) else if i < 5 then a2 (i - 3) else if i < 14 then a3 (i - 5) else if i < 23 then a4 (i - 14) else if i < 25 then a5 (i - 23) else if i < 28 then a6 (i - 25) else a7 (i - 28), rfl, by rw [ht]; exact hP, hD⟩, hS.F ht⟩) hS.2.2 dX6_init_81 hC.2.2.2.2.2.1
