theorem t_X1_fillBest_6 (k : xSt → Option (Unit × xSt)) (hk : ∀ (σ : xSt), XP κv true m_X1_fillBest 15 shC 31 [none, none, none, none] [] σ (k  σ)) : ∀ (n : Nat) (w3 : Int32) (σ : xSt), XP κv true m_X1_fillBest 15 shC 6 [some (.ref 28), some (.ref 5), none, some (.int w3)] [] σ (f_X1_fillBest_6 k n w3 σ) := by
  intro n
  induction n with
  | zero => intro w3 σ; exact x_none
  | succ n ih =>
    intro w3 σ
    rw [f_X1_fillBest_6]
    refine x_iload_n dX1_fillBest_6 rfl rfl ?_
    refine x_aload_n dX1_fillBest_7 rfl rfl ?_
    refine x_getI dX1_fillBest_8 lk_RX1_24 rfl rfl ?_
    refine x_icmp_gt 31 dX1_fillBest_11 (by decide) (fun _ => ?_) (fun _ => ?_)
    · exact x_sub (x_le_n (x_le_n (x_le_n (x_le_n x_le_e)))) (hk  _)
    · refine x_aload_n dX1_fillBest_14 rfl rfl ?_
      refine x_aload_n dX1_fillBest_15 rfl rfl ?_
      refine x_iconst (v := 0) dX1_fillBest_16 rfl ?_
      refine x_iload_n dX1_fillBest_17 rfl rfl ?_
      refine x_callV3i dX1_fillBest_18 lc_RX1_99 (c_X1_placeFrom 9 _ _ _) rfl rfl rfl rfl rfl (fun r3 s4 => ?_)
      refine x_if_eq 25 dX1_fillBest_21 (by decide) (fun _ => ?_) (fun _ => ?_)
      · refine x_iinc dX1_fillBest_25 rfl rfl rfl rfl ?_
        refine x_goto 6 dX1_fillBest_28 (by decide) ?_
        exact x_sub (x_le_s rfl (x_le_s rfl (x_le_n (x_le_s rfl x_le_e)))) (ih _ _)
      · exact x_vret dX1_fillBest_24 rfl

theorem c_X1_fillBest (a2 : Int32) (σ : xSt) : CON κv yX1_fillBest m_X1_fillBest true 15 shC [.ref 28, .ref 5, .int a2] σ (f_X1_fillBest a2 σ) := by
  refine x_con (L := [some (.ref 28), some (.ref 5), some (.int a2), none]) (by decide) rfl rfl rfl ?_
  unfold f_X1_fillBest
  refine x_aload_n dX1_fillBest_0 rfl rfl ?_
  refine x_callV0v dX1_fillBest_1 lc_RX1_15 (c_X1_takeAllAway _) rfl rfl rfl rfl rfl (fun r1 s2 => ?_)
  refine x_iload_n dX1_fillBest_4 rfl rfl ?_
  refine x_istore_n dX1_fillBest_5 rfl rfl rfl ?_
  refine x_sub (x_le_s rfl (x_le_s rfl (x_le_n (x_le_s rfl x_le_e)))) (t_X1_fillBest_6 _ (fun  s5 => ?_) FU _ _)
  exact x_vret dX1_fillBest_31 rfl

theorem c_X3_hasCycle_5 (σ : xSt) : CON κi yX3_hasCycle m_X3_hasCycle true 0 shC [.ref 5] σ (f_X3_hasCycle 5 σ) := by
  refine x_con (L := [some (.ref 5)]) (by decide) rfl rfl rfl ?_
  unfold f_X3_hasCycle
  refine x_aload_n dX3_hasCycle_0 rfl rfl ?_
  refine x_getI dX3_hasCycle_1 lk_RX3_80 rfl rfl ?_
  refine x_iconst (v := -1) dX3_hasCycle_4 rfl ?_
  refine x_jn 13 (fun (v1 : Int32) => [none]) (fun (v1 : Int32) => [.int v1]) (fun v1 s2 => ?_) (fun j3 hj3 => ?_)
  · exact x_zret dX3_hasCycle_13 rfl
  · refine x_icmp_ne 12 dX3_hasCycle_5 (by decide) (fun _ => ?_) (fun _ => ?_)
    · refine x_iconst (v := 0) dX3_hasCycle_12 rfl ?_
      exact x_sub (x_le_n x_le_e) (hj3 0 _)
    · refine x_iconst (v := 1) dX3_hasCycle_8 rfl ?_
      refine x_goto 13 dX3_hasCycle_9 (by decide) ?_
      exact x_sub (x_le_n x_le_e) (hj3 1 _)

theorem c_X3_hasCycle_14 (σ : xSt) : CON κi yX3_hasCycle m_X3_hasCycle true 0 shC [.ref 14] σ (f_X3_hasCycle 14 σ) := by
  refine x_con (L := [some (.ref 14)]) (by decide) rfl rfl rfl ?_
  unfold f_X3_hasCycle
  refine x_aload_n dX3_hasCycle_0 rfl rfl ?_
  refine x_getI dX3_hasCycle_1 lk_RX3_80 rfl rfl ?_
  refine x_iconst (v := -1) dX3_hasCycle_4 rfl ?_
  refine x_jn 13 (fun (v1 : Int32) => [none]) (fun (v1 : Int32) => [.int v1]) (fun v1 s2 => ?_) (fun j3 hj3 => ?_)
  · exact x_zret dX3_hasCycle_13 rfl
  · refine x_icmp_ne 12 dX3_hasCycle_5 (by decide) (fun _ => ?_) (fun _ => ?_)
    · refine x_iconst (v := 0) dX3_hasCycle_12 rfl ?_
      exact x_sub (x_le_n x_le_e) (hj3 0 _)
    · refine x_iconst (v := 1) dX3_hasCycle_8 rfl ?_
      refine x_goto 13 dX3_hasCycle_9 (by decide) ?_
      exact x_sub (x_le_n x_le_e) (hj3 1 _)

theorem t_X3_belowAny_5_4 (w1 : Int32) (k : Int32 → xSt → Option (Int32 × xSt)) (hk : ∀ (w2 : Int32) (σ : xSt), XP κi true m_X3_belowAny 0 shC 35 [none, none, some (.int w2), none] [] σ (k w2 σ)) : ∀ (n : Nat) (w2 : Int32) (w3 : Int32) (σ : xSt), XP κi true m_X3_belowAny 0 shC 4 [some (.ref 5), some (.int w1), some (.int w2), some (.int w3)] [] σ (f_X3_belowAny_4 5 w1 k n w2 w3 σ) := by
  intro n
  induction n with
  | zero => intro w2 w3 σ; exact x_none
  | succ n ih =>
    intro w2 w3 σ
    rw [f_X3_belowAny_4]
    refine x_iload_n dX3_belowAny_4 rfl rfl ?_
    refine x_aload_n dX3_belowAny_5 rfl rfl ?_
    refine x_getI dX3_belowAny_6 lk_RX3_36 rfl rfl ?_
    refine x_icmp_ge 35 dX3_belowAny_9 (by decide) (fun _ => ?_) (fun _ => ?_)
    · exact x_sub (x_le_n (x_le_n (x_le_s rfl (x_le_n x_le_e)))) (hk _ _)
    · refine x_iload_n dX3_belowAny_12 rfl rfl ?_
      refine x_iconst (v := 1) dX3_belowAny_13 rfl ?_
      refine x_iload_n dX3_belowAny_14 rfl rfl ?_
      refine x_ishl dX3_belowAny_15 ?_
      refine x_iand dX3_belowAny_16 ?_
      refine x_jn 29 (fun (v2 : Int32) => [some (.ref 5), some (.int w1), some (.int v2), some (.int w3)]) (fun (v2 : Int32) => []) (fun v2 s3 => ?_) (fun j4 hj4 => ?_)
      · refine x_iinc dX3_belowAny_29 rfl rfl rfl rfl ?_
        refine x_goto 4 dX3_belowAny_32 (by decide) ?_
        exact x_sub (x_le_s rfl (x_le_s rfl (x_le_s rfl (x_le_s rfl x_le_e)))) (ih _ _ _)
      · refine x_if_eq 29 dX3_belowAny_17 (by decide) (fun _ => ?_) (fun _ => ?_)
        · exact x_sub (x_le_s rfl (x_le_s rfl (x_le_s rfl (x_le_s rfl x_le_e)))) (hj4 w2 _)
        · refine x_iload_n dX3_belowAny_20 rfl rfl ?_
          refine x_aload_n dX3_belowAny_21 rfl rfl ?_
          refine x_getR dX3_belowAny_22 lk_RX3_21 rfl rfl ?_
          refine x_iload_n dX3_belowAny_25 rfl rfl ?_
          refine x_iald dX3_belowAny_26 rfl ?_
          refine x_ior dX3_belowAny_27 ?_
          refine x_istore_nB dX3_belowAny_28 rfl rfl rfl (fun x5 => ?_)
          exact x_sub (x_le_s rfl (x_le_s rfl (x_le_s rfl (x_le_s rfl x_le_e)))) (hj4 x5 _)

theorem c_X3_belowAny_5 (a1 : Int32) (σ : xSt) : CON κi yX3_belowAny m_X3_belowAny true 0 shC [.ref 5, .int a1] σ (f_X3_belowAny 5 a1 σ) := by
  refine x_con (L := [some (.ref 5), some (.int a1), none, none]) (by decide) rfl rfl rfl ?_
  unfold f_X3_belowAny
  refine x_iconst (v := 0) dX3_belowAny_0 rfl ?_
  refine x_istore_n dX3_belowAny_1 rfl rfl rfl ?_
  refine x_iconst (v := 0) dX3_belowAny_2 rfl ?_
  refine x_istore_n dX3_belowAny_3 rfl rfl rfl ?_
  refine x_sub (x_le_s rfl (x_le_s rfl (x_le_s rfl (x_le_s rfl x_le_e)))) (t_X3_belowAny_5_4 _ _ (fun e6 s7 => ?_) FU _ _ _)
  refine x_iload_n dX3_belowAny_35 rfl rfl ?_
  exact x_iret dX3_belowAny_36 rfl

theorem t_X3_steps_5_10 (w2 : Int32) (k : xSt → Option (Int32 × xSt)) (hk : ∀ (σ : xSt), XP κi true m_X3_steps 1 shC 44 [none, none, none, none, none] [] σ (k  σ)) : ∀ (n : Nat) (w3 : Int32) (w4 : Int32) (σ : xSt), XP κi true m_X3_steps 1 shC 10 [some (.ref 5), none, some (.int w2), some (.int w3), some (.int w4)] [] σ (f_X3_steps_10 5 w2 k n w3 w4 σ) := by
  intro n
  induction n with
  | zero => intro w3 w4 σ; exact x_none
  | succ n ih =>
    intro w3 w4 σ
    rw [f_X3_steps_10]
    refine x_iload dX3_steps_10 rfl ?_
    refine x_aload_n dX3_steps_12 rfl rfl ?_
    refine x_getI dX3_steps_13 lk_RX3_36 rfl rfl ?_
    refine x_icmp_gt 44 dX3_steps_16 (by decide) (fun _ => ?_) (fun _ => ?_)
    · exact x_sub (x_le_n (x_le_n (x_le_n (x_le_n (x_le_n x_le_e))))) (hk  _)
    · refine x_iload_n dX3_steps_19 rfl rfl ?_
      refine x_iconst (v := 1) dX3_steps_20 rfl ?_
      refine x_iload_n dX3_steps_21 rfl rfl ?_
      refine x_ishl dX3_steps_22 ?_
      refine x_iand dX3_steps_23 ?_
      refine x_if_eq 30 dX3_steps_24 (by decide) (fun _ => ?_) (fun _ => ?_)
      · refine x_iload_n dX3_steps_30 rfl rfl ?_
        refine x_aload_n dX3_steps_31 rfl rfl ?_
        refine x_iload_n dX3_steps_32 rfl rfl ?_
        refine x_callV1i dX3_steps_33 lc_RX3_95 (c_X3_belowAny_5 _ _) rfl rfl rfl rfl rfl (fun r2 s3 => ?_)
        refine x_ior dX3_steps_36 ?_
        refine x_istore_nB dX3_steps_37 rfl rfl rfl (fun x4 => ?_)
        refine x_iinc dX3_steps_38 rfl rfl rfl rfl ?_
        refine x_goto 10 dX3_steps_41 (by decide) ?_
        exact x_sub (x_le_s rfl (x_le_n (x_le_s rfl (x_le_s rfl (x_le_s rfl x_le_e))))) (ih _ _ _)
      · refine x_iload dX3_steps_27 rfl ?_
        exact x_iret dX3_steps_29 rfl

theorem c_X3_steps_5 (a1 : Int32) (a2 : Int32) (σ : xSt) : CON κi yX3_steps m_X3_steps true 1 shC [.ref 5, .int a1, .int a2] σ (f_X3_steps 5 a1 a2 σ) := by
  refine x_con (L := [some (.ref 5), some (.int a1), some (.int a2), none, none]) (by decide) rfl rfl rfl ?_
  unfold f_X3_steps
  refine x_aload_n dX3_steps_0 rfl rfl ?_
  refine x_getR dX3_steps_1 lk_RX3_21 rfl rfl ?_
  refine x_iload_n dX3_steps_4 rfl rfl ?_
  refine x_iald dX3_steps_5 rfl ?_
  refine x_istore_nB dX3_steps_6 rfl rfl rfl (fun x1 => ?_)
  refine x_iconst (v := 1) dX3_steps_7 rfl ?_
  refine x_istore dX3_steps_8 rfl rfl ?_
  refine x_sub (x_le_s rfl (x_le_n (x_le_s rfl (x_le_s rfl (x_le_s rfl x_le_e))))) (t_X3_steps_5_10 _ _ (fun  s5 => ?_) FU _ _ _)
  refine x_iconst (v := -1) dX3_steps_44 rfl ?_
  exact x_iret dX3_steps_45 rfl

theorem t_X2_startOfShortest_20 (k : Int32 → xSt → Option (Int32 × xSt)) (hk : ∀ (w1 : Int32) (σ : xSt), XP κi true m_X2_startOfShortest 2 shC 59 [none, some (.int w1), none, none, none] [] σ (k w1 σ)) : ∀ (n : Nat) (w1 : Int32) (w2 : Int32) (w3 : Int32) (σ : xSt), XP κi true m_X2_startOfShortest 2 shC 20 [some (.ref 5), some (.int w1), some (.int w2), some (.int w3), none] [] σ (f_X2_startOfShortest_20 k n w1 w2 w3 σ) := by
  intro n
  induction n with
  | zero => intro w1 w2 w3 σ; exact x_none
  | succ n ih =>
    intro w1 w2 w3 σ
    rw [f_X2_startOfShortest_20]
    refine x_iload_n dX2_startOfShortest_20 rfl rfl ?_
    refine x_aload_n dX2_startOfShortest_21 rfl rfl ?_
    refine x_getI dX2_startOfShortest_22 lk_RX2_37 rfl rfl ?_
    refine x_icmp_ge 59 dX2_startOfShortest_25 (by decide) (fun _ => ?_) (fun _ => ?_)
    · exact x_sub (x_le_n (x_le_s rfl (x_le_n (x_le_n (x_le_n x_le_e))))) (hk _ _)
    · refine x_aload_n dX2_startOfShortest_28 rfl rfl ?_
      refine x_iload_n dX2_startOfShortest_29 rfl rfl ?_
      refine x_iload_n dX2_startOfShortest_30 rfl rfl ?_
      refine x_callV2i dX2_startOfShortest_31 lc_RX2_23 (c_X3_steps_5 _ _ _) rfl rfl rfl rfl rfl (fun r4 s5 => ?_)
      refine x_istore dX2_startOfShortest_34 rfl rfl ?_
      refine x_iload dX2_startOfShortest_36 rfl ?_
      refine x_iconst (v := -1) dX2_startOfShortest_38 rfl ?_
      refine x_jn 53 (fun (v6 : Int32 × Int32) => [some (.ref 5), some (.int v6.1), some (.int v6.2), some (.int w3), none]) (fun (v6 : Int32 × Int32) => []) (fun v6 s7 => ?_) (fun j8 hj8 => ?_)
      · refine x_iinc dX2_startOfShortest_53 rfl rfl rfl rfl ?_
        refine x_goto 20 dX2_startOfShortest_56 (by decide) ?_
        exact x_sub (x_le_s rfl (x_le_s rfl (x_le_s rfl (x_le_s rfl (x_le_n x_le_e))))) (ih _ _ _ _)
      · refine x_icmp_eq 53 dX2_startOfShortest_39 (by decide) (fun _ => ?_) (fun _ => ?_)
        · exact x_sub (x_le_s rfl (x_le_s rfl (x_le_s rfl (x_le_s rfl (x_le_n x_le_e))))) (hj8 (w1, w2) _)
        · refine x_iload dX2_startOfShortest_42 rfl ?_
          refine x_iload_n dX2_startOfShortest_44 rfl rfl ?_
          refine x_icmp_ge 53 dX2_startOfShortest_45 (by decide) (fun _ => ?_) (fun _ => ?_)
          · exact x_sub (x_le_s rfl (x_le_s rfl (x_le_s rfl (x_le_s rfl (x_le_n x_le_e))))) (hj8 (w1, w2) _)
          · refine x_iload_n dX2_startOfShortest_48 rfl rfl ?_
            refine x_istore_n dX2_startOfShortest_49 rfl rfl rfl ?_
            refine x_iload dX2_startOfShortest_50 rfl ?_
            refine x_istore_n dX2_startOfShortest_52 rfl rfl rfl ?_
            exact x_sub (x_le_s rfl (x_le_s rfl (x_le_s rfl (x_le_s rfl (x_le_n x_le_e))))) (hj8 (w3, r4) _)

theorem c_X2_startOfShortest (σ : xSt) : CON κi yX2_startOfShortest m_X2_startOfShortest true 2 shC [.ref 5] σ (f_X2_startOfShortest σ) := by
  refine x_con (L := [some (.ref 5), none, none, none, none]) (by decide) rfl rfl rfl ?_
  unfold f_X2_startOfShortest
  refine x_iconst (v := -1) dX2_startOfShortest_0 rfl ?_
  refine x_istore_n dX2_startOfShortest_1 rfl rfl rfl ?_
  refine x_aload_n dX2_startOfShortest_2 rfl rfl ?_
  refine x_callV0i dX2_startOfShortest_3 lc_RX2_33 (c_X3_hasCycle_5 _) rfl rfl rfl rfl rfl (fun r1 s2 => ?_)
  refine x_if_ne 11 dX2_startOfShortest_6 (by decide) (fun _ => ?_) (fun _ => ?_)
  · refine x_aload_n dX2_startOfShortest_11 rfl rfl ?_
    refine x_getI dX2_startOfShortest_12 lk_RX2_37 rfl rfl ?_
    refine x_iconst (v := 1) dX2_startOfShortest_15 rfl ?_
    refine x_iadd dX2_startOfShortest_16 ?_
    refine x_istore_nB dX2_startOfShortest_17 rfl rfl rfl (fun x3 => ?_)
    refine x_iconst (v := 0) dX2_startOfShortest_18 rfl ?_
    refine x_istore_n dX2_startOfShortest_19 rfl rfl rfl ?_
    refine x_sub (x_le_s rfl (x_le_s rfl (x_le_s rfl (x_le_s rfl (x_le_n x_le_e))))) (t_X2_startOfShortest_20 _ (fun e9 s10 => ?_) FU _ _ _ _)
    refine x_iload_n dX2_startOfShortest_59 rfl rfl ?_
    exact x_iret dX2_startOfShortest_60 rfl
  · refine x_iload_n dX2_startOfShortest_9 rfl rfl ?_
    exact x_iret dX2_startOfShortest_10 rfl

theorem t_X2_next_3 (w1 : Int32) (w2 : Int32) (w3 : Int32) (k : xSt → Option (Int32 × xSt)) (hk : ∀ (σ : xSt), XP κi true m_X2_next 2 shC 42 [none, none, none, none, none] [] σ (k  σ)) : ∀ (n : Nat) (w4 : Int32) (σ : xSt), XP κi true m_X2_next 2 shC 3 [some (.ref 5), some (.int w1), some (.int w2), some (.int w3), some (.int w4)] [] σ (f_X2_next_3 w1 w2 w3 k n w4 σ) := by
  intro n
  induction n with
  | zero => intro w4 σ; exact x_none
  | succ n ih =>
    intro w4 σ
    rw [f_X2_next_3]
    refine x_iload dX2_next_3 rfl ?_
    refine x_aload_n dX2_next_5 rfl rfl ?_
    refine x_getI dX2_next_6 lk_RX2_37 rfl rfl ?_
    refine x_icmp_ge 42 dX2_next_9 (by decide) (fun _ => ?_) (fun _ => ?_)
    · exact x_sub (x_le_n (x_le_n (x_le_n (x_le_n (x_le_n x_le_e))))) (hk  _)
    · refine x_aload_n dX2_next_12 rfl rfl ?_
      refine x_iload_n dX2_next_13 rfl rfl ?_
      refine x_iload dX2_next_14 rfl ?_
      refine x_callV2i dX2_next_16 lc_RX2_40 (c_X3_isAbove_5 _ _ _) rfl rfl rfl rfl rfl (fun r1 s2 => ?_)
      refine x_jn 36 (fun (v5 : Unit) => [some (.ref 5), some (.int w1), some (.int w2), some (.int w3), some (.int w4)]) (fun (v5 : Unit) => []) (fun v5 s6 => ?_) (fun j7 hj7 => ?_)
      · refine x_iinc dX2_next_36 rfl rfl rfl rfl ?_
        refine x_goto 3 dX2_next_39 (by decide) ?_
        exact x_sub (x_le_s rfl (x_le_s rfl (x_le_s rfl (x_le_s rfl (x_le_s rfl x_le_e))))) (ih _ _)
      · refine x_if_eq 36 dX2_next_19 (by decide) (fun _ => ?_) (fun _ => ?_)
        · exact x_sub (x_le_s rfl (x_le_s rfl (x_le_s rfl (x_le_s rfl (x_le_s rfl x_le_e))))) (hj7 () _)
        · refine x_aload_n dX2_next_22 rfl rfl ?_
          refine x_iload dX2_next_23 rfl ?_
          refine x_iload_n dX2_next_25 rfl rfl ?_
          refine x_callV2i dX2_next_26 lc_RX2_23 (c_X3_steps_5 _ _ _) rfl rfl rfl rfl rfl (fun r8 s9 => ?_)
          refine x_iload_n dX2_next_29 rfl rfl ?_
          refine x_icmp_ne 36 dX2_next_30 (by decide) (fun _ => ?_) (fun _ => ?_)
          · exact x_sub (x_le_s rfl (x_le_s rfl (x_le_s rfl (x_le_s rfl (x_le_s rfl x_le_e))))) (hj7 () _)
          · refine x_iload dX2_next_33 rfl ?_
            exact x_iret dX2_next_35 rfl

theorem c_X2_next (a1 : Int32) (a2 : Int32) (a3 : Int32) (σ : xSt) : CON κi yX2_next m_X2_next true 2 shC [.ref 5, .int a1, .int a2, .int a3] σ (f_X2_next a1 a2 a3 σ) := by
  refine x_con (L := [some (.ref 5), some (.int a1), some (.int a2), some (.int a3), none]) (by decide) rfl rfl rfl ?_
  unfold f_X2_next
  refine x_iconst (v := 0) dX2_next_0 rfl ?_
  refine x_istore dX2_next_1 rfl rfl ?_
  refine x_sub (x_le_s rfl (x_le_s rfl (x_le_s rfl (x_le_s rfl (x_le_s rfl x_le_e))))) (t_X2_next_3 _ _ _ _ (fun  s10 => ?_) FU _ _)
  refine x_iconst (v := -1) dX2_next_42 rfl ?_
  exact x_iret dX2_next_43 rfl

theorem t_X2_find_26 (w2 : Int32) (w3 : Int32) (k : xSt → Option (Unit × xSt)) (hk : ∀ (σ : xSt), XP κv true m_X2_find 3 shC 88 [none, none, none, none, none] [] σ (k  σ)) : ∀ (n : Nat) (w4 : Int32) (σ : xSt), XP κv true m_X2_find 3 shC 26 [some (.ref 23), some (.ref 5), some (.int w2), some (.int w3), some (.int w4)] [] σ (f_X2_find_26 w2 w3 k n w4 σ) := by
  intro n
  induction n with
  | zero => intro w4 σ; exact x_none
  | succ n ih =>
    intro w4 σ
    rw [f_X2_find_26]
    refine x_iload dX2_find_26 rfl ?_
    refine x_iconst (v := -1) dX2_find_28 rfl ?_
    refine x_icmp_eq 88 dX2_find_29 (by decide) (fun _ => ?_) (fun _ => ?_)
    · exact x_sub (x_le_n (x_le_n (x_le_n (x_le_n (x_le_n x_le_e))))) (hk  _)
    · refine x_aload_n dX2_find_32 rfl rfl ?_
      refine x_getI dX2_find_33 lk_RX2_15 rfl rfl ?_
      refine x_iload_n dX2_find_36 rfl rfl ?_
      refine x_icmp_ge 88 dX2_find_37 (by decide) (fun _ => ?_) (fun _ => ?_)
      · exact x_sub (x_le_n (x_le_n (x_le_n (x_le_n (x_le_n x_le_e))))) (hk  _)
      · refine x_aload_n dX2_find_40 rfl rfl ?_
        refine x_getI dX2_find_41 lk_RX2_15 rfl rfl ?_
        refine x_bipush (v := 14) dX2_find_44 rfl ?_
        refine x_icmp_ge 88 dX2_find_46 (by decide) (fun _ => ?_) (fun _ => ?_)
        · exact x_sub (x_le_n (x_le_n (x_le_n (x_le_n (x_le_n x_le_e))))) (hk  _)
        · refine x_aload_n dX2_find_49 rfl rfl ?_
          refine x_getR dX2_find_50 lk_RX2_9 rfl rfl ?_
          refine x_aload_n dX2_find_53 rfl rfl ?_
          refine x_getI dX2_find_54 lk_RX2_15 rfl rfl ?_
          refine x_iload dX2_find_57 rfl ?_
          refine x_iastB dX2_find_59 rfl (fun s6 => ?_)
          refine x_aload_n dX2_find_60 rfl rfl ?_
          refine x_dup dX2_find_61 rfl ?_
          refine x_getI dX2_find_62 lk_RX2_15 rfl rfl ?_
          refine x_iconst (v := 1) dX2_find_65 rfl ?_
          refine x_iadd dX2_find_66 ?_
          refine x_putIB dX2_find_67 lp_RX2_15 rfl rfl (fun s7 => ?_)
          refine x_aload_n dX2_find_70 rfl rfl ?_
          refine x_iload dX2_find_71 rfl ?_
          refine x_iload_n dX2_find_73 rfl rfl ?_
          refine x_iload_n dX2_find_74 rfl rfl ?_
          refine x_aload_n dX2_find_75 rfl rfl ?_
          refine x_getI dX2_find_76 lk_RX2_15 rfl rfl ?_
          refine x_isub dX2_find_79 ?_
          refine x_callS4i dX2_find_80 lc_RX2_29 (c_X2_next _ _ _ _) rfl rfl (fun r8 s9 => ?_)
          refine x_istore dX2_find_83 rfl rfl ?_
          refine x_goto 26 dX2_find_85 (by decide) ?_
          exact x_sub (x_le_s rfl (x_le_s rfl (x_le_s rfl (x_le_s rfl (x_le_s rfl x_le_e))))) (ih _ _)

theorem c_X2_find (σ : xSt) : CON κv yX2_find m_X2_find true 3 shC [.ref 23, .ref 5] σ (f_X2_find σ) := by
  refine x_con (L := [some (.ref 23), some (.ref 5), none, none, none]) (by decide) rfl rfl rfl ?_
  unfold f_X2_find
  refine x_aload_n dX2_find_0 rfl rfl ?_
  refine x_iconst (v := 0) dX2_find_1 rfl ?_
  refine x_putIB dX2_find_2 lp_RX2_15 rfl rfl (fun s1 => ?_)
  refine x_aload_n dX2_find_5 rfl rfl ?_
  refine x_callS1i dX2_find_6 lc_RX2_19 (c_X2_startOfShortest _) rfl rfl (fun r2 s3 => ?_)
  refine x_istore_n dX2_find_9 rfl rfl rfl ?_
  refine x_iload_n dX2_find_10 rfl rfl ?_
  refine x_iconst (v := -1) dX2_find_11 rfl ?_
  refine x_icmp_ne 16 dX2_find_12 (by decide) (fun _ => ?_) (fun _ => ?_)
  · refine x_aload_n dX2_find_16 rfl rfl ?_
    refine x_iload_n dX2_find_17 rfl rfl ?_
    refine x_iload_n dX2_find_18 rfl rfl ?_
    refine x_callV2i dX2_find_19 lc_RX2_23 (c_X3_steps_5 _ _ _) rfl rfl rfl rfl rfl (fun r4 s5 => ?_)
    refine x_istore_n dX2_find_22 rfl rfl rfl ?_
    refine x_iload_n dX2_find_23 rfl rfl ?_
    refine x_istore dX2_find_24 rfl rfl ?_
    refine x_sub (x_le_s rfl (x_le_s rfl (x_le_s rfl (x_le_s rfl (x_le_s rfl x_le_e))))) (t_X2_find_26 _ _ _ (fun  s10 => ?_) FU _ _)
    exact x_vret dX2_find_88 rfl
  · exact x_vret dX2_find_15 rfl

theorem t_X3_freeOf_5_10_5 (w2 : Int32) (k : Int32 → xSt → Option (Int32 × xSt)) (hk : ∀ (w3 : Int32) (σ : xSt), XP κi true m_X3_freeOf 0 shC 45 [none, none, none, some (.int w3), none] [] σ (k w3 σ)) : ∀ (n : Nat) (w3 : Int32) (w4 : Int32) (σ : xSt), XP κi true m_X3_freeOf 0 shC 5 [some (.ref 5), some (.ref 10), some (.int w2), some (.int w3), some (.int w4)] [] σ (f_X3_freeOf_5 5 10 w2 k n w3 w4 σ) := by
  intro n
  induction n with
  | zero => intro w3 w4 σ; exact x_none
  | succ n ih =>
    intro w3 w4 σ
    rw [f_X3_freeOf_5]
    refine x_iload dX3_freeOf_5 rfl ?_
    refine x_aload_n dX3_freeOf_7 rfl rfl ?_
    refine x_getI dX3_freeOf_8 lk_RX3_36 rfl rfl ?_
    refine x_icmp_ge 45 dX3_freeOf_11 (by decide) (fun _ => ?_) (fun _ => ?_)
    · exact x_sub (x_le_n (x_le_n (x_le_n (x_le_s rfl (x_le_n x_le_e))))) (hk _ _)
    · refine x_iload_n dX3_freeOf_14 rfl rfl ?_
      refine x_iconst (v := 1) dX3_freeOf_15 rfl ?_
      refine x_iload dX3_freeOf_16 rfl ?_
      refine x_ishl dX3_freeOf_18 ?_
      refine x_iand dX3_freeOf_19 ?_
      refine x_jn 39 (fun (v2 : Int32) => [some (.ref 5), some (.ref 10), some (.int w2), some (.int v2), some (.int w4)]) (fun (v2 : Int32) => []) (fun v2 s3 => ?_) (fun j4 hj4 => ?_)
      · refine x_iinc dX3_freeOf_39 rfl rfl rfl rfl ?_
        refine x_goto 5 dX3_freeOf_42 (by decide) ?_
        exact x_sub (x_le_s rfl (x_le_s rfl (x_le_s rfl (x_le_s rfl (x_le_s rfl x_le_e))))) (ih _ _ _)
      · refine x_if_eq 39 dX3_freeOf_20 (by decide) (fun _ => ?_) (fun _ => ?_)
        · exact x_sub (x_le_s rfl (x_le_s rfl (x_le_s rfl (x_le_s rfl (x_le_s rfl x_le_e))))) (hj4 w3 _)
        · refine x_aload_n dX3_freeOf_23 rfl rfl ?_
          refine x_iload dX3_freeOf_24 rfl ?_
          refine x_iald dX3_freeOf_26 rfl ?_
          refine x_iload_n dX3_freeOf_27 rfl rfl ?_
          refine x_iand dX3_freeOf_28 ?_
          refine x_if_ne 39 dX3_freeOf_29 (by decide) (fun _ => ?_) (fun _ => ?_)
          · exact x_sub (x_le_s rfl (x_le_s rfl (x_le_s rfl (x_le_s rfl (x_le_s rfl x_le_e))))) (hj4 w3 _)
          · refine x_iload_n dX3_freeOf_32 rfl rfl ?_
            refine x_iconst (v := 1) dX3_freeOf_33 rfl ?_
            refine x_iload dX3_freeOf_34 rfl ?_
            refine x_ishl dX3_freeOf_36 ?_
            refine x_ior dX3_freeOf_37 ?_
            refine x_istore_nB dX3_freeOf_38 rfl rfl rfl (fun x5 => ?_)
            exact x_sub (x_le_s rfl (x_le_s rfl (x_le_s rfl (x_le_s rfl (x_le_s rfl x_le_e))))) (hj4 x5 _)

theorem c_X3_freeOf_5_10 (a2 : Int32) (σ : xSt) : CON κi yX3_freeOf m_X3_freeOf true 0 shC [.ref 5, .ref 10, .int a2] σ (f_X3_freeOf 5 10 a2 σ) := by
  refine x_con (L := [some (.ref 5), some (.ref 10), some (.int a2), none, none]) (by decide) rfl rfl rfl ?_
  unfold f_X3_freeOf
  refine x_iconst (v := 0) dX3_freeOf_0 rfl ?_
  refine x_istore_n dX3_freeOf_1 rfl rfl rfl ?_
  refine x_iconst (v := 0) dX3_freeOf_2 rfl ?_
  refine x_istore dX3_freeOf_3 rfl rfl ?_
  refine x_sub (x_le_s rfl (x_le_s rfl (x_le_s rfl (x_le_s rfl (x_le_s rfl x_le_e))))) (t_X3_freeOf_5_10_5 _ _ (fun e6 s7 => ?_) FU _ _ _)
  refine x_iload_n dX3_freeOf_45 rfl rfl ?_
  exact x_iret dX3_freeOf_46 rfl

theorem t_X3_freeOf_5_9_5 (w2 : Int32) (k : Int32 → xSt → Option (Int32 × xSt)) (hk : ∀ (w3 : Int32) (σ : xSt), XP κi true m_X3_freeOf 0 shC 45 [none, none, none, some (.int w3), none] [] σ (k w3 σ)) : ∀ (n : Nat) (w3 : Int32) (w4 : Int32) (σ : xSt), XP κi true m_X3_freeOf 0 shC 5 [some (.ref 5), some (.ref 9), some (.int w2), some (.int w3), some (.int w4)] [] σ (f_X3_freeOf_5 5 9 w2 k n w3 w4 σ) := by
  intro n
  induction n with
  | zero => intro w3 w4 σ; exact x_none
  | succ n ih =>
    intro w3 w4 σ
    rw [f_X3_freeOf_5]
    refine x_iload dX3_freeOf_5 rfl ?_
    refine x_aload_n dX3_freeOf_7 rfl rfl ?_
    refine x_getI dX3_freeOf_8 lk_RX3_36 rfl rfl ?_
    refine x_icmp_ge 45 dX3_freeOf_11 (by decide) (fun _ => ?_) (fun _ => ?_)
    · exact x_sub (x_le_n (x_le_n (x_le_n (x_le_s rfl (x_le_n x_le_e))))) (hk _ _)
    · refine x_iload_n dX3_freeOf_14 rfl rfl ?_
      refine x_iconst (v := 1) dX3_freeOf_15 rfl ?_
      refine x_iload dX3_freeOf_16 rfl ?_
      refine x_ishl dX3_freeOf_18 ?_
      refine x_iand dX3_freeOf_19 ?_
      refine x_jn 39 (fun (v2 : Int32) => [some (.ref 5), some (.ref 9), some (.int w2), some (.int v2), some (.int w4)]) (fun (v2 : Int32) => []) (fun v2 s3 => ?_) (fun j4 hj4 => ?_)
      · refine x_iinc dX3_freeOf_39 rfl rfl rfl rfl ?_
        refine x_goto 5 dX3_freeOf_42 (by decide) ?_
        exact x_sub (x_le_s rfl (x_le_s rfl (x_le_s rfl (x_le_s rfl (x_le_s rfl x_le_e))))) (ih _ _ _)
      · refine x_if_eq 39 dX3_freeOf_20 (by decide) (fun _ => ?_) (fun _ => ?_)
        · exact x_sub (x_le_s rfl (x_le_s rfl (x_le_s rfl (x_le_s rfl (x_le_s rfl x_le_e))))) (hj4 w3 _)
        · refine x_aload_n dX3_freeOf_23 rfl rfl ?_
          refine x_iload dX3_freeOf_24 rfl ?_
          refine x_iald dX3_freeOf_26 rfl ?_
          refine x_iload_n dX3_freeOf_27 rfl rfl ?_
          refine x_iand dX3_freeOf_28 ?_
          refine x_if_ne 39 dX3_freeOf_29 (by decide) (fun _ => ?_) (fun _ => ?_)
          · exact x_sub (x_le_s rfl (x_le_s rfl (x_le_s rfl (x_le_s rfl (x_le_s rfl x_le_e))))) (hj4 w3 _)
          · refine x_iload_n dX3_freeOf_32 rfl rfl ?_
            refine x_iconst (v := 1) dX3_freeOf_33 rfl ?_
            refine x_iload dX3_freeOf_34 rfl ?_
            refine x_ishl dX3_freeOf_36 ?_
            refine x_ior dX3_freeOf_37 ?_
            refine x_istore_nB dX3_freeOf_38 rfl rfl rfl (fun x5 => ?_)
            exact x_sub (x_le_s rfl (x_le_s rfl (x_le_s rfl (x_le_s rfl (x_le_s rfl x_le_e))))) (hj4 x5 _)

theorem c_X3_freeOf_5_9 (a2 : Int32) (σ : xSt) : CON κi yX3_freeOf m_X3_freeOf true 0 shC [.ref 5, .ref 9, .int a2] σ (f_X3_freeOf 5 9 a2 σ) := by
  refine x_con (L := [some (.ref 5), some (.ref 9), some (.int a2), none, none]) (by decide) rfl rfl rfl ?_
  unfold f_X3_freeOf
  refine x_iconst (v := 0) dX3_freeOf_0 rfl ?_
  refine x_istore_n dX3_freeOf_1 rfl rfl rfl ?_
  refine x_iconst (v := 0) dX3_freeOf_2 rfl ?_
  refine x_istore dX3_freeOf_3 rfl rfl ?_
  refine x_sub (x_le_s rfl (x_le_s rfl (x_le_s rfl (x_le_s rfl (x_le_s rfl x_le_e))))) (t_X3_freeOf_5_9_5 _ _ (fun e6 s7 => ?_) FU _ _ _)
  refine x_iload_n dX3_freeOf_45 rfl rfl ?_
  exact x_iret dX3_freeOf_46 rfl

theorem t_X3_freeOf_14_19_5 (w2 : Int32) (k : Int32 → xSt → Option (Int32 × xSt)) (hk : ∀ (w3 : Int32) (σ : xSt), XP κi true m_X3_freeOf 0 shC 45 [none, none, none, some (.int w3), none] [] σ (k w3 σ)) : ∀ (n : Nat) (w3 : Int32) (w4 : Int32) (σ : xSt), XP κi true m_X3_freeOf 0 shC 5 [some (.ref 14), some (.ref 19), some (.int w2), some (.int w3), some (.int w4)] [] σ (f_X3_freeOf_5 14 19 w2 k n w3 w4 σ) := by
  intro n
  induction n with
  | zero => intro w3 w4 σ; exact x_none
  | succ n ih =>
    intro w3 w4 σ
    rw [f_X3_freeOf_5]
    refine x_iload dX3_freeOf_5 rfl ?_
    refine x_aload_n dX3_freeOf_7 rfl rfl ?_
    refine x_getI dX3_freeOf_8 lk_RX3_36 rfl rfl ?_
    refine x_icmp_ge 45 dX3_freeOf_11 (by decide) (fun _ => ?_) (fun _ => ?_)
    · exact x_sub (x_le_n (x_le_n (x_le_n (x_le_s rfl (x_le_n x_le_e))))) (hk _ _)
    · refine x_iload_n dX3_freeOf_14 rfl rfl ?_
      refine x_iconst (v := 1) dX3_freeOf_15 rfl ?_
      refine x_iload dX3_freeOf_16 rfl ?_
      refine x_ishl dX3_freeOf_18 ?_
      refine x_iand dX3_freeOf_19 ?_
      refine x_jn 39 (fun (v2 : Int32) => [some (.ref 14), some (.ref 19), some (.int w2), some (.int v2), some (.int w4)]) (fun (v2 : Int32) => []) (fun v2 s3 => ?_) (fun j4 hj4 => ?_)
      · refine x_iinc dX3_freeOf_39 rfl rfl rfl rfl ?_
        refine x_goto 5 dX3_freeOf_42 (by decide) ?_
        exact x_sub (x_le_s rfl (x_le_s rfl (x_le_s rfl (x_le_s rfl (x_le_s rfl x_le_e))))) (ih _ _ _)
      · refine x_if_eq 39 dX3_freeOf_20 (by decide) (fun _ => ?_) (fun _ => ?_)
        · exact x_sub (x_le_s rfl (x_le_s rfl (x_le_s rfl (x_le_s rfl (x_le_s rfl x_le_e))))) (hj4 w3 _)
        · refine x_aload_n dX3_freeOf_23 rfl rfl ?_
          refine x_iload dX3_freeOf_24 rfl ?_
          refine x_iald dX3_freeOf_26 rfl ?_
          refine x_iload_n dX3_freeOf_27 rfl rfl ?_
          refine x_iand dX3_freeOf_28 ?_
          refine x_if_ne 39 dX3_freeOf_29 (by decide) (fun _ => ?_) (fun _ => ?_)
          · exact x_sub (x_le_s rfl (x_le_s rfl (x_le_s rfl (x_le_s rfl (x_le_s rfl x_le_e))))) (hj4 w3 _)
          · refine x_iload_n dX3_freeOf_32 rfl rfl ?_
            refine x_iconst (v := 1) dX3_freeOf_33 rfl ?_
            refine x_iload dX3_freeOf_34 rfl ?_
            refine x_ishl dX3_freeOf_36 ?_
            refine x_ior dX3_freeOf_37 ?_
            refine x_istore_nB dX3_freeOf_38 rfl rfl rfl (fun x5 => ?_)
            exact x_sub (x_le_s rfl (x_le_s rfl (x_le_s rfl (x_le_s rfl (x_le_s rfl x_le_e))))) (hj4 x5 _)

theorem c_X3_freeOf_14_19 (a2 : Int32) (σ : xSt) : CON κi yX3_freeOf m_X3_freeOf true 0 shC [.ref 14, .ref 19, .int a2] σ (f_X3_freeOf 14 19 a2 σ) := by
  refine x_con (L := [some (.ref 14), some (.ref 19), some (.int a2), none, none]) (by decide) rfl rfl rfl ?_
  unfold f_X3_freeOf
  refine x_iconst (v := 0) dX3_freeOf_0 rfl ?_
  refine x_istore_n dX3_freeOf_1 rfl rfl rfl ?_
  refine x_iconst (v := 0) dX3_freeOf_2 rfl ?_
  refine x_istore dX3_freeOf_3 rfl rfl ?_
  refine x_sub (x_le_s rfl (x_le_s rfl (x_le_s rfl (x_le_s rfl (x_le_s rfl x_le_e))))) (t_X3_freeOf_14_19_5 _ _ (fun e6 s7 => ?_) FU _ _ _)
  refine x_iload_n dX3_freeOf_45 rfl rfl ?_
  exact x_iret dX3_freeOf_46 rfl

theorem t_X3_freeOf_14_18_5 (w2 : Int32) (k : Int32 → xSt → Option (Int32 × xSt)) (hk : ∀ (w3 : Int32) (σ : xSt), XP κi true m_X3_freeOf 0 shC 45 [none, none, none, some (.int w3), none] [] σ (k w3 σ)) : ∀ (n : Nat) (w3 : Int32) (w4 : Int32) (σ : xSt), XP κi true m_X3_freeOf 0 shC 5 [some (.ref 14), some (.ref 18), some (.int w2), some (.int w3), some (.int w4)] [] σ (f_X3_freeOf_5 14 18 w2 k n w3 w4 σ) := by
  intro n
  induction n with
  | zero => intro w3 w4 σ; exact x_none
  | succ n ih =>
    intro w3 w4 σ
    rw [f_X3_freeOf_5]
    refine x_iload dX3_freeOf_5 rfl ?_
    refine x_aload_n dX3_freeOf_7 rfl rfl ?_
    refine x_getI dX3_freeOf_8 lk_RX3_36 rfl rfl ?_
    refine x_icmp_ge 45 dX3_freeOf_11 (by decide) (fun _ => ?_) (fun _ => ?_)
    · exact x_sub (x_le_n (x_le_n (x_le_n (x_le_s rfl (x_le_n x_le_e))))) (hk _ _)
    · refine x_iload_n dX3_freeOf_14 rfl rfl ?_
      refine x_iconst (v := 1) dX3_freeOf_15 rfl ?_
      refine x_iload dX3_freeOf_16 rfl ?_
      refine x_ishl dX3_freeOf_18 ?_
      refine x_iand dX3_freeOf_19 ?_
      refine x_jn 39 (fun (v2 : Int32) => [some (.ref 14), some (.ref 18), some (.int w2), some (.int v2), some (.int w4)]) (fun (v2 : Int32) => []) (fun v2 s3 => ?_) (fun j4 hj4 => ?_)
      · refine x_iinc dX3_freeOf_39 rfl rfl rfl rfl ?_
        refine x_goto 5 dX3_freeOf_42 (by decide) ?_
        exact x_sub (x_le_s rfl (x_le_s rfl (x_le_s rfl (x_le_s rfl (x_le_s rfl x_le_e))))) (ih _ _ _)
      · refine x_if_eq 39 dX3_freeOf_20 (by decide) (fun _ => ?_) (fun _ => ?_)
        · exact x_sub (x_le_s rfl (x_le_s rfl (x_le_s rfl (x_le_s rfl (x_le_s rfl x_le_e))))) (hj4 w3 _)
        · refine x_aload_n dX3_freeOf_23 rfl rfl ?_
          refine x_iload dX3_freeOf_24 rfl ?_
          refine x_iald dX3_freeOf_26 rfl ?_
          refine x_iload_n dX3_freeOf_27 rfl rfl ?_
          refine x_iand dX3_freeOf_28 ?_
          refine x_if_ne 39 dX3_freeOf_29 (by decide) (fun _ => ?_) (fun _ => ?_)
          · exact x_sub (x_le_s rfl (x_le_s rfl (x_le_s rfl (x_le_s rfl (x_le_s rfl x_le_e))))) (hj4 w3 _)
          · refine x_iload_n dX3_freeOf_32 rfl rfl ?_
            refine x_iconst (v := 1) dX3_freeOf_33 rfl ?_
            refine x_iload dX3_freeOf_34 rfl ?_
            refine x_ishl dX3_freeOf_36 ?_
            refine x_ior dX3_freeOf_37 ?_
            refine x_istore_nB dX3_freeOf_38 rfl rfl rfl (fun x5 => ?_)
            exact x_sub (x_le_s rfl (x_le_s rfl (x_le_s rfl (x_le_s rfl (x_le_s rfl x_le_e))))) (hj4 x5 _)

theorem c_X3_freeOf_14_18 (a2 : Int32) (σ : xSt) : CON κi yX3_freeOf m_X3_freeOf true 0 shC [.ref 14, .ref 18, .int a2] σ (f_X3_freeOf 14 18 a2 σ) := by
  refine x_con (L := [some (.ref 14), some (.ref 18), some (.int a2), none, none]) (by decide) rfl rfl rfl ?_
  unfold f_X3_freeOf
  refine x_iconst (v := 0) dX3_freeOf_0 rfl ?_
  refine x_istore_n dX3_freeOf_1 rfl rfl rfl ?_
  refine x_iconst (v := 0) dX3_freeOf_2 rfl ?_
  refine x_istore dX3_freeOf_3 rfl rfl ?_
  refine x_sub (x_le_s rfl (x_le_s rfl (x_le_s rfl (x_le_s rfl (x_le_s rfl x_le_e))))) (t_X3_freeOf_14_18_5 _ _ (fun e6 s7 => ?_) FU _ _ _)
  refine x_iload_n dX3_freeOf_45 rfl rfl ?_
  exact x_iret dX3_freeOf_46 rfl

theorem t_X3_giveRank_5_11_3 (w2 : Int32) (w3 : Int32) (k : xSt → Option (Unit × xSt)) (hk : ∀ (σ : xSt), XP κv true m_X3_giveRank 0 shC 32 [none, none, none, none, none] [] σ (k  σ)) : ∀ (n : Nat) (w4 : Int32) (σ : xSt), XP κv true m_X3_giveRank 0 shC 3 [some (.ref 5), some (.ref 11), some (.int w2), some (.int w3), some (.int w4)] [] σ (f_X3_giveRank_3 5 11 w2 w3 k n w4 σ) := by
  intro n
  induction n with
  | zero => intro w4 σ; exact x_none
  | succ n ih =>
    intro w4 σ
    rw [f_X3_giveRank_3]
    refine x_iload dX3_giveRank_3 rfl ?_
    refine x_aload_n dX3_giveRank_5 rfl rfl ?_
    refine x_getI dX3_giveRank_6 lk_RX3_36 rfl rfl ?_
    refine x_icmp_ge 32 dX3_giveRank_9 (by decide) (fun _ => ?_) (fun _ => ?_)
    · exact x_sub (x_le_n (x_le_n (x_le_n (x_le_n (x_le_n x_le_e))))) (hk  _)
    · refine x_iload_n dX3_giveRank_12 rfl rfl ?_
      refine x_iconst (v := 1) dX3_giveRank_13 rfl ?_
      refine x_iload dX3_giveRank_14 rfl ?_
      refine x_ishl dX3_giveRank_16 ?_
      refine x_iand dX3_giveRank_17 ?_
      refine x_jn 26 (fun (v2 : Unit) => [some (.ref 5), some (.ref 11), some (.int w2), some (.int w3), some (.int w4)]) (fun (v2 : Unit) => []) (fun v2 s3 => ?_) (fun j4 hj4 => ?_)
      · refine x_iinc dX3_giveRank_26 rfl rfl rfl rfl ?_
        refine x_goto 3 dX3_giveRank_29 (by decide) ?_
        exact x_sub (x_le_s rfl (x_le_s rfl (x_le_s rfl (x_le_s rfl (x_le_s rfl x_le_e))))) (ih _ _)
      · refine x_if_eq 26 dX3_giveRank_18 (by decide) (fun _ => ?_) (fun _ => ?_)
        · exact x_sub (x_le_s rfl (x_le_s rfl (x_le_s rfl (x_le_s rfl (x_le_s rfl x_le_e))))) (hj4 () _)
        · refine x_aload_n dX3_giveRank_21 rfl rfl ?_
          refine x_iload dX3_giveRank_22 rfl ?_
          refine x_iload_n dX3_giveRank_24 rfl rfl ?_
          refine x_iastB dX3_giveRank_25 rfl (fun s5 => ?_)
          exact x_sub (x_le_s rfl (x_le_s rfl (x_le_s rfl (x_le_s rfl (x_le_s rfl x_le_e))))) (hj4 () _)

theorem c_X3_giveRank_5_11 (a2 : Int32) (a3 : Int32) (σ : xSt) : CON κv yX3_giveRank m_X3_giveRank true 0 shC [.ref 5, .ref 11, .int a2, .int a3] σ (f_X3_giveRank 5 11 a2 a3 σ) := by
  refine x_con (L := [some (.ref 5), some (.ref 11), some (.int a2), some (.int a3), none]) (by decide) rfl rfl rfl ?_
  unfold f_X3_giveRank
  refine x_iconst (v := 0) dX3_giveRank_0 rfl ?_
  refine x_istore dX3_giveRank_1 rfl rfl ?_
  refine x_sub (x_le_s rfl (x_le_s rfl (x_le_s rfl (x_le_s rfl (x_le_s rfl x_le_e))))) (t_X3_giveRank_5_11_3 _ _ _ (fun  s6 => ?_) FU _ _)
  exact x_vret dX3_giveRank_32 rfl

theorem t_X3_giveRank_5_12_3 (w2 : Int32) (w3 : Int32) (k : xSt → Option (Unit × xSt)) (hk : ∀ (σ : xSt), XP κv true m_X3_giveRank 0 shC 32 [none, none, none, none, none] [] σ (k  σ)) : ∀ (n : Nat) (w4 : Int32) (σ : xSt), XP κv true m_X3_giveRank 0 shC 3 [some (.ref 5), some (.ref 12), some (.int w2), some (.int w3), some (.int w4)] [] σ (f_X3_giveRank_3 5 12 w2 w3 k n w4 σ) := by
  intro n
  induction n with
  | zero => intro w4 σ; exact x_none
  | succ n ih =>
    intro w4 σ
    rw [f_X3_giveRank_3]
    refine x_iload dX3_giveRank_3 rfl ?_
    refine x_aload_n dX3_giveRank_5 rfl rfl ?_
    refine x_getI dX3_giveRank_6 lk_RX3_36 rfl rfl ?_
    refine x_icmp_ge 32 dX3_giveRank_9 (by decide) (fun _ => ?_) (fun _ => ?_)
    · exact x_sub (x_le_n (x_le_n (x_le_n (x_le_n (x_le_n x_le_e))))) (hk  _)
    · refine x_iload_n dX3_giveRank_12 rfl rfl ?_
      refine x_iconst (v := 1) dX3_giveRank_13 rfl ?_
      refine x_iload dX3_giveRank_14 rfl ?_
      refine x_ishl dX3_giveRank_16 ?_
      refine x_iand dX3_giveRank_17 ?_
      refine x_jn 26 (fun (v2 : Unit) => [some (.ref 5), some (.ref 12), some (.int w2), some (.int w3), some (.int w4)]) (fun (v2 : Unit) => []) (fun v2 s3 => ?_) (fun j4 hj4 => ?_)
      · refine x_iinc dX3_giveRank_26 rfl rfl rfl rfl ?_
        refine x_goto 3 dX3_giveRank_29 (by decide) ?_
        exact x_sub (x_le_s rfl (x_le_s rfl (x_le_s rfl (x_le_s rfl (x_le_s rfl x_le_e))))) (ih _ _)
      · refine x_if_eq 26 dX3_giveRank_18 (by decide) (fun _ => ?_) (fun _ => ?_)
        · exact x_sub (x_le_s rfl (x_le_s rfl (x_le_s rfl (x_le_s rfl (x_le_s rfl x_le_e))))) (hj4 () _)
        · refine x_aload_n dX3_giveRank_21 rfl rfl ?_
          refine x_iload dX3_giveRank_22 rfl ?_
          refine x_iload_n dX3_giveRank_24 rfl rfl ?_
          refine x_iastB dX3_giveRank_25 rfl (fun s5 => ?_)
          exact x_sub (x_le_s rfl (x_le_s rfl (x_le_s rfl (x_le_s rfl (x_le_s rfl x_le_e))))) (hj4 () _)

theorem c_X3_giveRank_5_12 (a2 : Int32) (a3 : Int32) (σ : xSt) : CON κv yX3_giveRank m_X3_giveRank true 0 shC [.ref 5, .ref 12, .int a2, .int a3] σ (f_X3_giveRank 5 12 a2 a3 σ) := by
  refine x_con (L := [some (.ref 5), some (.ref 12), some (.int a2), some (.int a3), none]) (by decide) rfl rfl rfl ?_
  unfold f_X3_giveRank
  refine x_iconst (v := 0) dX3_giveRank_0 rfl ?_
  refine x_istore dX3_giveRank_1 rfl rfl ?_
  refine x_sub (x_le_s rfl (x_le_s rfl (x_le_s rfl (x_le_s rfl (x_le_s rfl x_le_e))))) (t_X3_giveRank_5_12_3 _ _ _ (fun  s6 => ?_) FU _ _)
  exact x_vret dX3_giveRank_32 rfl

theorem t_X3_giveRank_14_20_3 (w2 : Int32) (w3 : Int32) (k : xSt → Option (Unit × xSt)) (hk : ∀ (σ : xSt), XP κv true m_X3_giveRank 0 shC 32 [none, none, none, none, none] [] σ (k  σ)) : ∀ (n : Nat) (w4 : Int32) (σ : xSt), XP κv true m_X3_giveRank 0 shC 3 [some (.ref 14), some (.ref 20), some (.int w2), some (.int w3), some (.int w4)] [] σ (f_X3_giveRank_3 14 20 w2 w3 k n w4 σ) := by
  intro n
  induction n with
  | zero => intro w4 σ; exact x_none
  | succ n ih =>
    intro w4 σ
    rw [f_X3_giveRank_3]
    refine x_iload dX3_giveRank_3 rfl ?_
    refine x_aload_n dX3_giveRank_5 rfl rfl ?_
    refine x_getI dX3_giveRank_6 lk_RX3_36 rfl rfl ?_
    refine x_icmp_ge 32 dX3_giveRank_9 (by decide) (fun _ => ?_) (fun _ => ?_)
    · exact x_sub (x_le_n (x_le_n (x_le_n (x_le_n (x_le_n x_le_e))))) (hk  _)
    · refine x_iload_n dX3_giveRank_12 rfl rfl ?_
      refine x_iconst (v := 1) dX3_giveRank_13 rfl ?_
      refine x_iload dX3_giveRank_14 rfl ?_
      refine x_ishl dX3_giveRank_16 ?_
      refine x_iand dX3_giveRank_17 ?_
      refine x_jn 26 (fun (v2 : Unit) => [some (.ref 14), some (.ref 20), some (.int w2), some (.int w3), some (.int w4)]) (fun (v2 : Unit) => []) (fun v2 s3 => ?_) (fun j4 hj4 => ?_)
      · refine x_iinc dX3_giveRank_26 rfl rfl rfl rfl ?_
        refine x_goto 3 dX3_giveRank_29 (by decide) ?_
        exact x_sub (x_le_s rfl (x_le_s rfl (x_le_s rfl (x_le_s rfl (x_le_s rfl x_le_e))))) (ih _ _)
      · refine x_if_eq 26 dX3_giveRank_18 (by decide) (fun _ => ?_) (fun _ => ?_)
        · exact x_sub (x_le_s rfl (x_le_s rfl (x_le_s rfl (x_le_s rfl (x_le_s rfl x_le_e))))) (hj4 () _)
        · refine x_aload_n dX3_giveRank_21 rfl rfl ?_
          refine x_iload dX3_giveRank_22 rfl ?_
          refine x_iload_n dX3_giveRank_24 rfl rfl ?_
          refine x_iastB dX3_giveRank_25 rfl (fun s5 => ?_)
          exact x_sub (x_le_s rfl (x_le_s rfl (x_le_s rfl (x_le_s rfl (x_le_s rfl x_le_e))))) (hj4 () _)

theorem c_X3_giveRank_14_20 (a2 : Int32) (a3 : Int32) (σ : xSt) : CON κv yX3_giveRank m_X3_giveRank true 0 shC [.ref 14, .ref 20, .int a2, .int a3] σ (f_X3_giveRank 14 20 a2 a3 σ) := by
  refine x_con (L := [some (.ref 14), some (.ref 20), some (.int a2), some (.int a3), none]) (by decide) rfl rfl rfl ?_
  unfold f_X3_giveRank
  refine x_iconst (v := 0) dX3_giveRank_0 rfl ?_
  refine x_istore dX3_giveRank_1 rfl rfl ?_
  refine x_sub (x_le_s rfl (x_le_s rfl (x_le_s rfl (x_le_s rfl (x_le_s rfl x_le_e))))) (t_X3_giveRank_14_20_3 _ _ _ (fun  s6 => ?_) FU _ _)
  exact x_vret dX3_giveRank_32 rfl

theorem t_X3_giveRank_14_21_3 (w2 : Int32) (w3 : Int32) (k : xSt → Option (Unit × xSt)) (hk : ∀ (σ : xSt), XP κv true m_X3_giveRank 0 shC 32 [none, none, none, none, none] [] σ (k  σ)) : ∀ (n : Nat) (w4 : Int32) (σ : xSt), XP κv true m_X3_giveRank 0 shC 3 [some (.ref 14), some (.ref 21), some (.int w2), some (.int w3), some (.int w4)] [] σ (f_X3_giveRank_3 14 21 w2 w3 k n w4 σ) := by
  intro n
  induction n with
  | zero => intro w4 σ; exact x_none
  | succ n ih =>
    intro w4 σ
    rw [f_X3_giveRank_3]
    refine x_iload dX3_giveRank_3 rfl ?_
    refine x_aload_n dX3_giveRank_5 rfl rfl ?_
    refine x_getI dX3_giveRank_6 lk_RX3_36 rfl rfl ?_
    refine x_icmp_ge 32 dX3_giveRank_9 (by decide) (fun _ => ?_) (fun _ => ?_)
    · exact x_sub (x_le_n (x_le_n (x_le_n (x_le_n (x_le_n x_le_e))))) (hk  _)
    · refine x_iload_n dX3_giveRank_12 rfl rfl ?_
      refine x_iconst (v := 1) dX3_giveRank_13 rfl ?_
      refine x_iload dX3_giveRank_14 rfl ?_
      refine x_ishl dX3_giveRank_16 ?_
      refine x_iand dX3_giveRank_17 ?_
      refine x_jn 26 (fun (v2 : Unit) => [some (.ref 14), some (.ref 21), some (.int w2), some (.int w3), some (.int w4)]) (fun (v2 : Unit) => []) (fun v2 s3 => ?_) (fun j4 hj4 => ?_)
      · refine x_iinc dX3_giveRank_26 rfl rfl rfl rfl ?_
        refine x_goto 3 dX3_giveRank_29 (by decide) ?_
        exact x_sub (x_le_s rfl (x_le_s rfl (x_le_s rfl (x_le_s rfl (x_le_s rfl x_le_e))))) (ih _ _)
      · refine x_if_eq 26 dX3_giveRank_18 (by decide) (fun _ => ?_) (fun _ => ?_)
        · exact x_sub (x_le_s rfl (x_le_s rfl (x_le_s rfl (x_le_s rfl (x_le_s rfl x_le_e))))) (hj4 () _)
        · refine x_aload_n dX3_giveRank_21 rfl rfl ?_
          refine x_iload dX3_giveRank_22 rfl ?_
          refine x_iload_n dX3_giveRank_24 rfl rfl ?_
          refine x_iastB dX3_giveRank_25 rfl (fun s5 => ?_)
          exact x_sub (x_le_s rfl (x_le_s rfl (x_le_s rfl (x_le_s rfl (x_le_s rfl x_le_e))))) (hj4 () _)

theorem c_X3_giveRank_14_21 (a2 : Int32) (a3 : Int32) (σ : xSt) : CON κv yX3_giveRank m_X3_giveRank true 0 shC [.ref 14, .ref 21, .int a2, .int a3] σ (f_X3_giveRank 14 21 a2 a3 σ) := by
  refine x_con (L := [some (.ref 14), some (.ref 21), some (.int a2), some (.int a3), none]) (by decide) rfl rfl rfl ?_
  unfold f_X3_giveRank
  refine x_iconst (v := 0) dX3_giveRank_0 rfl ?_
  refine x_istore dX3_giveRank_1 rfl rfl ?_
  refine x_sub (x_le_s rfl (x_le_s rfl (x_le_s rfl (x_le_s rfl (x_le_s rfl x_le_e))))) (t_X3_giveRank_14_21_3 _ _ _ (fun  s6 => ?_) FU _ _)
  exact x_vret dX3_giveRank_32 rfl

theorem t_X3_rank_5_10_11_12 (k : Int32 → Int32 → xSt → Option (Int32 × xSt)) (hk : ∀ (w3 : Int32) (w4 : Int32) (σ : xSt), XP κi true m_X3_rank 1 shC 55 [some (.ref 5), none, some (.ref 11), some (.int w3), some (.int w4), none] [] σ (k w3 w4 σ)) : ∀ (n : Nat) (w3 : Int32) (w4 : Int32) (σ : xSt), XP κi true m_X3_rank 1 shC 12 [some (.ref 5), some (.ref 10), some (.ref 11), some (.int w3), some (.int w4), none] [] σ (f_X3_rank_12 5 10 11 k n w3 w4 σ) := by
  intro n
  induction n with
  | zero => intro w3 w4 σ; exact x_none
  | succ n ih =>
    intro w3 w4 σ
    rw [f_X3_rank_12]
    refine x_iload_n dX3_rank_12 rfl rfl ?_
    refine x_if_eq 55 dX3_rank_13 (by decide) (fun _ => ?_) (fun _ => ?_)
    · exact x_sub (x_le_s rfl (x_le_n (x_le_s rfl (x_le_s rfl (x_le_s rfl (x_le_n x_le_e)))))) (hk _ _ _)
    · refine x_iload dX3_rank_16 rfl ?_
      refine x_aload_n dX3_rank_18 rfl rfl ?_
      refine x_getI dX3_rank_19 lk_RX3_36 rfl rfl ?_
      refine x_icmp_ge 55 dX3_rank_22 (by decide) (fun _ => ?_) (fun _ => ?_)
      · exact x_sub (x_le_s rfl (x_le_n (x_le_s rfl (x_le_s rfl (x_le_s rfl (x_le_n x_le_e)))))) (hk _ _ _)
      · refine x_aload_n dX3_rank_25 rfl rfl ?_
        refine x_aload_n dX3_rank_26 rfl rfl ?_
        refine x_iload_n dX3_rank_27 rfl rfl ?_
        refine x_callV2i dX3_rank_28 lc_RX3_87 (c_X3_freeOf_5_10 _ _) rfl rfl rfl rfl rfl (fun r2 s3 => ?_)
        refine x_istore dX3_rank_31 rfl rfl ?_
        refine x_aload_n dX3_rank_33 rfl rfl ?_
        refine x_aload_n dX3_rank_34 rfl rfl ?_
        refine x_iload dX3_rank_35 rfl ?_
        refine x_iload dX3_rank_37 rfl ?_
        refine x_callV3v dX3_rank_39 lc_RX3_91 (c_X3_giveRank_5_11 _ _ _) rfl rfl rfl rfl rfl (fun r4 s5 => ?_)
        refine x_iload_n dX3_rank_42 rfl rfl ?_
        refine x_iload dX3_rank_43 rfl ?_
        refine x_iconst (v := -1) dX3_rank_45 rfl ?_
        refine x_ixor dX3_rank_46 ?_
        refine x_iand dX3_rank_47 ?_
        refine x_istore_nB dX3_rank_48 rfl rfl rfl (fun x6 => ?_)
        refine x_iinc dX3_rank_49 rfl rfl rfl rfl ?_
        refine x_goto 12 dX3_rank_52 (by decide) ?_
        exact x_sub (x_le_s rfl (x_le_s rfl (x_le_s rfl (x_le_s rfl (x_le_s rfl (x_le_n x_le_e)))))) (ih _ _ _)

theorem c_X3_rank_5_10_11 (σ : xSt) : CON κi yX3_rank m_X3_rank true 1 shC [.ref 5, .ref 10, .ref 11] σ (f_X3_rank 5 10 11 σ) := by
  refine x_con (L := [some (.ref 5), some (.ref 10), some (.ref 11), none, none, none]) (by decide) rfl rfl rfl ?_
  unfold f_X3_rank
  refine x_iconst (v := 1) dX3_rank_0 rfl ?_
  refine x_aload_n dX3_rank_1 rfl rfl ?_
  refine x_getI dX3_rank_2 lk_RX3_36 rfl rfl ?_
  refine x_ishl dX3_rank_5 ?_
  refine x_iconst (v := 1) dX3_rank_6 rfl ?_
  refine x_isub dX3_rank_7 ?_
  refine x_istore_nB dX3_rank_8 rfl rfl rfl (fun x1 => ?_)
  refine x_iconst (v := 0) dX3_rank_9 rfl ?_
  refine x_istore dX3_rank_10 rfl rfl ?_
  refine x_sub (x_le_s rfl (x_le_s rfl (x_le_s rfl (x_le_s rfl (x_le_s rfl (x_le_n x_le_e)))))) (t_X3_rank_5_10_11_12 _ (fun e7 e8 s9 => ?_) FU _ _ _)
  refine x_iload_n dX3_rank_55 rfl rfl ?_
  refine x_if_ne 62 dX3_rank_56 (by decide) (fun _ => ?_) (fun _ => ?_)
  · refine x_aload_n dX3_rank_62 rfl rfl ?_
    refine x_aload_n dX3_rank_63 rfl rfl ?_
    refine x_iconst (v := 1) dX3_rank_64 rfl ?_
    refine x_aload_n dX3_rank_65 rfl rfl ?_
    refine x_getI dX3_rank_66 lk_RX3_36 rfl rfl ?_
    refine x_ishl dX3_rank_69 ?_
    refine x_iconst (v := 1) dX3_rank_70 rfl ?_
    refine x_isub dX3_rank_71 ?_
    refine x_iconst (v := -1) dX3_rank_72 rfl ?_
    refine x_callV3v dX3_rank_73 lc_RX3_91 (c_X3_giveRank_5_11 _ _ _) rfl rfl rfl rfl rfl (fun r10 s11 => ?_)
    refine x_iconst (v := -1) dX3_rank_76 rfl ?_
    exact x_iret dX3_rank_77 rfl
  · refine x_iload dX3_rank_59 rfl ?_
    exact x_iret dX3_rank_61 rfl

theorem t_X3_rank_5_9_12_12 (k : Int32 → Int32 → xSt → Option (Int32 × xSt)) (hk : ∀ (w3 : Int32) (w4 : Int32) (σ : xSt), XP κi true m_X3_rank 1 shC 55 [some (.ref 5), none, some (.ref 12), some (.int w3), some (.int w4), none] [] σ (k w3 w4 σ)) : ∀ (n : Nat) (w3 : Int32) (w4 : Int32) (σ : xSt), XP κi true m_X3_rank 1 shC 12 [some (.ref 5), some (.ref 9), some (.ref 12), some (.int w3), some (.int w4), none] [] σ (f_X3_rank_12 5 9 12 k n w3 w4 σ) := by
  intro n
  induction n with
  | zero => intro w3 w4 σ; exact x_none
  | succ n ih =>
    intro w3 w4 σ
    rw [f_X3_rank_12]
    refine x_iload_n dX3_rank_12 rfl rfl ?_
    refine x_if_eq 55 dX3_rank_13 (by decide) (fun _ => ?_) (fun _ => ?_)
    · exact x_sub (x_le_s rfl (x_le_n (x_le_s rfl (x_le_s rfl (x_le_s rfl (x_le_n x_le_e)))))) (hk _ _ _)
    · refine x_iload dX3_rank_16 rfl ?_
      refine x_aload_n dX3_rank_18 rfl rfl ?_
      refine x_getI dX3_rank_19 lk_RX3_36 rfl rfl ?_
      refine x_icmp_ge 55 dX3_rank_22 (by decide) (fun _ => ?_) (fun _ => ?_)
      · exact x_sub (x_le_s rfl (x_le_n (x_le_s rfl (x_le_s rfl (x_le_s rfl (x_le_n x_le_e)))))) (hk _ _ _)
      · refine x_aload_n dX3_rank_25 rfl rfl ?_
        refine x_aload_n dX3_rank_26 rfl rfl ?_
        refine x_iload_n dX3_rank_27 rfl rfl ?_
        refine x_callV2i dX3_rank_28 lc_RX3_87 (c_X3_freeOf_5_9 _ _) rfl rfl rfl rfl rfl (fun r2 s3 => ?_)
        refine x_istore dX3_rank_31 rfl rfl ?_
        refine x_aload_n dX3_rank_33 rfl rfl ?_
        refine x_aload_n dX3_rank_34 rfl rfl ?_
        refine x_iload dX3_rank_35 rfl ?_
        refine x_iload dX3_rank_37 rfl ?_
        refine x_callV3v dX3_rank_39 lc_RX3_91 (c_X3_giveRank_5_12 _ _ _) rfl rfl rfl rfl rfl (fun r4 s5 => ?_)
        refine x_iload_n dX3_rank_42 rfl rfl ?_
        refine x_iload dX3_rank_43 rfl ?_
        refine x_iconst (v := -1) dX3_rank_45 rfl ?_
        refine x_ixor dX3_rank_46 ?_
        refine x_iand dX3_rank_47 ?_
        refine x_istore_nB dX3_rank_48 rfl rfl rfl (fun x6 => ?_)
        refine x_iinc dX3_rank_49 rfl rfl rfl rfl ?_
        refine x_goto 12 dX3_rank_52 (by decide) ?_
        exact x_sub (x_le_s rfl (x_le_s rfl (x_le_s rfl (x_le_s rfl (x_le_s rfl (x_le_n x_le_e)))))) (ih _ _ _)

theorem c_X3_rank_5_9_12 (σ : xSt) : CON κi yX3_rank m_X3_rank true 1 shC [.ref 5, .ref 9, .ref 12] σ (f_X3_rank 5 9 12 σ) := by
  refine x_con (L := [some (.ref 5), some (.ref 9), some (.ref 12), none, none, none]) (by decide) rfl rfl rfl ?_
  unfold f_X3_rank
  refine x_iconst (v := 1) dX3_rank_0 rfl ?_
  refine x_aload_n dX3_rank_1 rfl rfl ?_
  refine x_getI dX3_rank_2 lk_RX3_36 rfl rfl ?_
  refine x_ishl dX3_rank_5 ?_
  refine x_iconst (v := 1) dX3_rank_6 rfl ?_
  refine x_isub dX3_rank_7 ?_
  refine x_istore_nB dX3_rank_8 rfl rfl rfl (fun x1 => ?_)
  refine x_iconst (v := 0) dX3_rank_9 rfl ?_
  refine x_istore dX3_rank_10 rfl rfl ?_
  refine x_sub (x_le_s rfl (x_le_s rfl (x_le_s rfl (x_le_s rfl (x_le_s rfl (x_le_n x_le_e)))))) (t_X3_rank_5_9_12_12 _ (fun e7 e8 s9 => ?_) FU _ _ _)
  refine x_iload_n dX3_rank_55 rfl rfl ?_
  refine x_if_ne 62 dX3_rank_56 (by decide) (fun _ => ?_) (fun _ => ?_)
  · refine x_aload_n dX3_rank_62 rfl rfl ?_
    refine x_aload_n dX3_rank_63 rfl rfl ?_
    refine x_iconst (v := 1) dX3_rank_64 rfl ?_
    refine x_aload_n dX3_rank_65 rfl rfl ?_
    refine x_getI dX3_rank_66 lk_RX3_36 rfl rfl ?_
    refine x_ishl dX3_rank_69 ?_
    refine x_iconst (v := 1) dX3_rank_70 rfl ?_
    refine x_isub dX3_rank_71 ?_
    refine x_iconst (v := -1) dX3_rank_72 rfl ?_
    refine x_callV3v dX3_rank_73 lc_RX3_91 (c_X3_giveRank_5_12 _ _ _) rfl rfl rfl rfl rfl (fun r10 s11 => ?_)
    refine x_iconst (v := -1) dX3_rank_76 rfl ?_
    exact x_iret dX3_rank_77 rfl
  · refine x_iload dX3_rank_59 rfl ?_
    exact x_iret dX3_rank_61 rfl

theorem t_X3_rank_14_19_20_12 (k : Int32 → Int32 → xSt → Option (Int32 × xSt)) (hk : ∀ (w3 : Int32) (w4 : Int32) (σ : xSt), XP κi true m_X3_rank 1 shC 55 [some (.ref 14), none, some (.ref 20), some (.int w3), some (.int w4), none] [] σ (k w3 w4 σ)) : ∀ (n : Nat) (w3 : Int32) (w4 : Int32) (σ : xSt), XP κi true m_X3_rank 1 shC 12 [some (.ref 14), some (.ref 19), some (.ref 20), some (.int w3), some (.int w4), none] [] σ (f_X3_rank_12 14 19 20 k n w3 w4 σ) := by
  intro n
  induction n with
  | zero => intro w3 w4 σ; exact x_none
  | succ n ih =>
    intro w3 w4 σ
    rw [f_X3_rank_12]
    refine x_iload_n dX3_rank_12 rfl rfl ?_
    refine x_if_eq 55 dX3_rank_13 (by decide) (fun _ => ?_) (fun _ => ?_)
    · exact x_sub (x_le_s rfl (x_le_n (x_le_s rfl (x_le_s rfl (x_le_s rfl (x_le_n x_le_e)))))) (hk _ _ _)
    · refine x_iload dX3_rank_16 rfl ?_
      refine x_aload_n dX3_rank_18 rfl rfl ?_
      refine x_getI dX3_rank_19 lk_RX3_36 rfl rfl ?_
      refine x_icmp_ge 55 dX3_rank_22 (by decide) (fun _ => ?_) (fun _ => ?_)
      · exact x_sub (x_le_s rfl (x_le_n (x_le_s rfl (x_le_s rfl (x_le_s rfl (x_le_n x_le_e)))))) (hk _ _ _)
      · refine x_aload_n dX3_rank_25 rfl rfl ?_
        refine x_aload_n dX3_rank_26 rfl rfl ?_
        refine x_iload_n dX3_rank_27 rfl rfl ?_
        refine x_callV2i dX3_rank_28 lc_RX3_87 (c_X3_freeOf_14_19 _ _) rfl rfl rfl rfl rfl (fun r2 s3 => ?_)
        refine x_istore dX3_rank_31 rfl rfl ?_
        refine x_aload_n dX3_rank_33 rfl rfl ?_
        refine x_aload_n dX3_rank_34 rfl rfl ?_
        refine x_iload dX3_rank_35 rfl ?_
        refine x_iload dX3_rank_37 rfl ?_
        refine x_callV3v dX3_rank_39 lc_RX3_91 (c_X3_giveRank_14_20 _ _ _) rfl rfl rfl rfl rfl (fun r4 s5 => ?_)
        refine x_iload_n dX3_rank_42 rfl rfl ?_
        refine x_iload dX3_rank_43 rfl ?_
        refine x_iconst (v := -1) dX3_rank_45 rfl ?_
        refine x_ixor dX3_rank_46 ?_
        refine x_iand dX3_rank_47 ?_
        refine x_istore_nB dX3_rank_48 rfl rfl rfl (fun x6 => ?_)
        refine x_iinc dX3_rank_49 rfl rfl rfl rfl ?_
        refine x_goto 12 dX3_rank_52 (by decide) ?_
        exact x_sub (x_le_s rfl (x_le_s rfl (x_le_s rfl (x_le_s rfl (x_le_s rfl (x_le_n x_le_e)))))) (ih _ _ _)

theorem c_X3_rank_14_19_20 (σ : xSt) : CON κi yX3_rank m_X3_rank true 1 shC [.ref 14, .ref 19, .ref 20] σ (f_X3_rank 14 19 20 σ) := by
  refine x_con (L := [some (.ref 14), some (.ref 19), some (.ref 20), none, none, none]) (by decide) rfl rfl rfl ?_
  unfold f_X3_rank
  refine x_iconst (v := 1) dX3_rank_0 rfl ?_
  refine x_aload_n dX3_rank_1 rfl rfl ?_
  refine x_getI dX3_rank_2 lk_RX3_36 rfl rfl ?_
  refine x_ishl dX3_rank_5 ?_
  refine x_iconst (v := 1) dX3_rank_6 rfl ?_
  refine x_isub dX3_rank_7 ?_
  refine x_istore_nB dX3_rank_8 rfl rfl rfl (fun x1 => ?_)
  refine x_iconst (v := 0) dX3_rank_9 rfl ?_
  refine x_istore dX3_rank_10 rfl rfl ?_
  refine x_sub (x_le_s rfl (x_le_s rfl (x_le_s rfl (x_le_s rfl (x_le_s rfl (x_le_n x_le_e)))))) (t_X3_rank_14_19_20_12 _ (fun e7 e8 s9 => ?_) FU _ _ _)
  refine x_iload_n dX3_rank_55 rfl rfl ?_
  refine x_if_ne 62 dX3_rank_56 (by decide) (fun _ => ?_) (fun _ => ?_)
  · refine x_aload_n dX3_rank_62 rfl rfl ?_
    refine x_aload_n dX3_rank_63 rfl rfl ?_
    refine x_iconst (v := 1) dX3_rank_64 rfl ?_
    refine x_aload_n dX3_rank_65 rfl rfl ?_
    refine x_getI dX3_rank_66 lk_RX3_36 rfl rfl ?_
    refine x_ishl dX3_rank_69 ?_
    refine x_iconst (v := 1) dX3_rank_70 rfl ?_
    refine x_isub dX3_rank_71 ?_
    refine x_iconst (v := -1) dX3_rank_72 rfl ?_
    refine x_callV3v dX3_rank_73 lc_RX3_91 (c_X3_giveRank_14_20 _ _ _) rfl rfl rfl rfl rfl (fun r10 s11 => ?_)
    refine x_iconst (v := -1) dX3_rank_76 rfl ?_
    exact x_iret dX3_rank_77 rfl
  · refine x_iload dX3_rank_59 rfl ?_
    exact x_iret dX3_rank_61 rfl

theorem t_X3_rank_14_18_21_12 (k : Int32 → Int32 → xSt → Option (Int32 × xSt)) (hk : ∀ (w3 : Int32) (w4 : Int32) (σ : xSt), XP κi true m_X3_rank 1 shC 55 [some (.ref 14), none, some (.ref 21), some (.int w3), some (.int w4), none] [] σ (k w3 w4 σ)) : ∀ (n : Nat) (w3 : Int32) (w4 : Int32) (σ : xSt), XP κi true m_X3_rank 1 shC 12 [some (.ref 14), some (.ref 18), some (.ref 21), some (.int w3), some (.int w4), none] [] σ (f_X3_rank_12 14 18 21 k n w3 w4 σ) := by
  intro n
  induction n with
  | zero => intro w3 w4 σ; exact x_none
  | succ n ih =>
    intro w3 w4 σ
    rw [f_X3_rank_12]
    refine x_iload_n dX3_rank_12 rfl rfl ?_
    refine x_if_eq 55 dX3_rank_13 (by decide) (fun _ => ?_) (fun _ => ?_)
    · exact x_sub (x_le_s rfl (x_le_n (x_le_s rfl (x_le_s rfl (x_le_s rfl (x_le_n x_le_e)))))) (hk _ _ _)
    · refine x_iload dX3_rank_16 rfl ?_
      refine x_aload_n dX3_rank_18 rfl rfl ?_
      refine x_getI dX3_rank_19 lk_RX3_36 rfl rfl ?_
      refine x_icmp_ge 55 dX3_rank_22 (by decide) (fun _ => ?_) (fun _ => ?_)
      · exact x_sub (x_le_s rfl (x_le_n (x_le_s rfl (x_le_s rfl (x_le_s rfl (x_le_n x_le_e)))))) (hk _ _ _)
      · refine x_aload_n dX3_rank_25 rfl rfl ?_
        refine x_aload_n dX3_rank_26 rfl rfl ?_
        refine x_iload_n dX3_rank_27 rfl rfl ?_
        refine x_callV2i dX3_rank_28 lc_RX3_87 (c_X3_freeOf_14_18 _ _) rfl rfl rfl rfl rfl (fun r2 s3 => ?_)
        refine x_istore dX3_rank_31 rfl rfl ?_
        refine x_aload_n dX3_rank_33 rfl rfl ?_
        refine x_aload_n dX3_rank_34 rfl rfl ?_
        refine x_iload dX3_rank_35 rfl ?_
        refine x_iload dX3_rank_37 rfl ?_
        refine x_callV3v dX3_rank_39 lc_RX3_91 (c_X3_giveRank_14_21 _ _ _) rfl rfl rfl rfl rfl (fun r4 s5 => ?_)
        refine x_iload_n dX3_rank_42 rfl rfl ?_
        refine x_iload dX3_rank_43 rfl ?_
        refine x_iconst (v := -1) dX3_rank_45 rfl ?_
        refine x_ixor dX3_rank_46 ?_
        refine x_iand dX3_rank_47 ?_
        refine x_istore_nB dX3_rank_48 rfl rfl rfl (fun x6 => ?_)
        refine x_iinc dX3_rank_49 rfl rfl rfl rfl ?_
        refine x_goto 12 dX3_rank_52 (by decide) ?_
        exact x_sub (x_le_s rfl (x_le_s rfl (x_le_s rfl (x_le_s rfl (x_le_s rfl (x_le_n x_le_e)))))) (ih _ _ _)

theorem c_X3_rank_14_18_21 (σ : xSt) : CON κi yX3_rank m_X3_rank true 1 shC [.ref 14, .ref 18, .ref 21] σ (f_X3_rank 14 18 21 σ) := by
  refine x_con (L := [some (.ref 14), some (.ref 18), some (.ref 21), none, none, none]) (by decide) rfl rfl rfl ?_
  unfold f_X3_rank
  refine x_iconst (v := 1) dX3_rank_0 rfl ?_
  refine x_aload_n dX3_rank_1 rfl rfl ?_
  refine x_getI dX3_rank_2 lk_RX3_36 rfl rfl ?_
  refine x_ishl dX3_rank_5 ?_
  refine x_iconst (v := 1) dX3_rank_6 rfl ?_
  refine x_isub dX3_rank_7 ?_
  refine x_istore_nB dX3_rank_8 rfl rfl rfl (fun x1 => ?_)
  refine x_iconst (v := 0) dX3_rank_9 rfl ?_
  refine x_istore dX3_rank_10 rfl rfl ?_
  refine x_sub (x_le_s rfl (x_le_s rfl (x_le_s rfl (x_le_s rfl (x_le_s rfl (x_le_n x_le_e)))))) (t_X3_rank_14_18_21_12 _ (fun e7 e8 s9 => ?_) FU _ _ _)
  refine x_iload_n dX3_rank_55 rfl rfl ?_
  refine x_if_ne 62 dX3_rank_56 (by decide) (fun _ => ?_) (fun _ => ?_)
  · refine x_aload_n dX3_rank_62 rfl rfl ?_
    refine x_aload_n dX3_rank_63 rfl rfl ?_
    refine x_iconst (v := 1) dX3_rank_64 rfl ?_
    refine x_aload_n dX3_rank_65 rfl rfl ?_
    refine x_getI dX3_rank_66 lk_RX3_36 rfl rfl ?_
    refine x_ishl dX3_rank_69 ?_
    refine x_iconst (v := 1) dX3_rank_70 rfl ?_
    refine x_isub dX3_rank_71 ?_
    refine x_iconst (v := -1) dX3_rank_72 rfl ?_
    refine x_callV3v dX3_rank_73 lc_RX3_91 (c_X3_giveRank_14_21 _ _ _) rfl rfl rfl rfl rfl (fun r10 s11 => ?_)
    refine x_iconst (v := -1) dX3_rank_76 rfl ?_
    exact x_iret dX3_rank_77 rfl
  · refine x_iload dX3_rank_59 rfl ?_
    exact x_iret dX3_rank_61 rfl

theorem c_X3_add_5 (a1 : Int32) (a2 : Int32) (a3 : Int32) (a4 : Int32) (σ : xSt) : CON κv yX3_add m_X3_add true 0 shC [.ref 5, .int a1, .int a2, .int a3, .int a4] σ (f_X3_add 5 a1 a2 a3 a4 σ) := by
  refine x_con (L := [some (.ref 5), some (.int a1), some (.int a2), some (.int a3), some (.int a4)]) (by decide) rfl rfl rfl ?_
  unfold f_X3_add
  refine x_aload_n dX3_add_0 rfl rfl ?_
  refine x_getI dX3_add_1 lk_RX3_36 rfl rfl ?_
  refine x_bipush (v := 14) dX3_add_4 rfl ?_
  refine x_jn 80 (fun (v8 : Unit) => [none, none, none, none, none]) (fun (v8 : Unit) => []) (fun v8 s9 => ?_) (fun j10 hj10 => ?_)
  · exact x_vret dX3_add_80 rfl
  · refine x_icmp_ge 80 dX3_add_6 (by decide) (fun _ => ?_) (fun _ => ?_)
    · exact x_sub (x_le_n (x_le_n (x_le_n (x_le_n (x_le_n x_le_e))))) (hj10 () _)
    · refine x_aload_n dX3_add_9 rfl rfl ?_
      refine x_getR dX3_add_10 lk_RX3_9 rfl rfl ?_
      refine x_aload_n dX3_add_13 rfl rfl ?_
      refine x_getI dX3_add_14 lk_RX3_36 rfl rfl ?_
      refine x_iload_n dX3_add_17 rfl rfl ?_
      refine x_iastB dX3_add_18 rfl (fun s11 => ?_)
      refine x_aload_n dX3_add_19 rfl rfl ?_
      refine x_getR dX3_add_20 lk_RX3_15 rfl rfl ?_
      refine x_aload_n dX3_add_23 rfl rfl ?_
      refine x_getI dX3_add_24 lk_RX3_36 rfl rfl ?_
      refine x_iload_n dX3_add_27 rfl rfl ?_
      refine x_iastB dX3_add_28 rfl (fun s12 => ?_)
      refine x_aload_n dX3_add_29 rfl rfl ?_
      refine x_getR dX3_add_30 lk_RX3_18 rfl rfl ?_
      refine x_aload_n dX3_add_33 rfl rfl ?_
      refine x_getI dX3_add_34 lk_RX3_36 rfl rfl ?_
      refine x_iload_n dX3_add_37 rfl rfl ?_
      refine x_iastB dX3_add_38 rfl (fun s13 => ?_)
      refine x_aload_n dX3_add_39 rfl rfl ?_
      refine x_getR dX3_add_40 lk_RX3_33 rfl rfl ?_
      refine x_aload_n dX3_add_43 rfl rfl ?_
      refine x_getI dX3_add_44 lk_RX3_36 rfl rfl ?_
      refine x_iload dX3_add_47 rfl ?_
      refine x_iastB dX3_add_49 rfl (fun s14 => ?_)
      refine x_aload_n dX3_add_50 rfl rfl ?_
      refine x_getR dX3_add_51 lk_RX3_21 rfl rfl ?_
      refine x_aload_n dX3_add_54 rfl rfl ?_
      refine x_getI dX3_add_55 lk_RX3_36 rfl rfl ?_
      refine x_iconst (v := 0) dX3_add_58 rfl ?_
      refine x_iastB dX3_add_59 rfl (fun s15 => ?_)
      refine x_aload_n dX3_add_60 rfl rfl ?_
      refine x_getR dX3_add_61 lk_RX3_24 rfl rfl ?_
      refine x_aload_n dX3_add_64 rfl rfl ?_
      refine x_getI dX3_add_65 lk_RX3_36 rfl rfl ?_
      refine x_iconst (v := 0) dX3_add_68 rfl ?_
      refine x_iastB dX3_add_69 rfl (fun s16 => ?_)
      refine x_aload_n dX3_add_70 rfl rfl ?_
      refine x_dup dX3_add_71 rfl ?_
      refine x_getI dX3_add_72 lk_RX3_36 rfl rfl ?_
      refine x_iconst (v := 1) dX3_add_75 rfl ?_
      refine x_iadd dX3_add_76 ?_
      refine x_putIB dX3_add_77 lp_RX3_36 rfl rfl (fun s17 => ?_)
      exact x_sub (x_le_n (x_le_n (x_le_n (x_le_n (x_le_n x_le_e))))) (hj10 () _)

theorem c_X3_add_14 (a1 : Int32) (a2 : Int32) (a3 : Int32) (a4 : Int32) (σ : xSt) : CON κv yX3_add m_X3_add true 0 shC [.ref 14, .int a1, .int a2, .int a3, .int a4] σ (f_X3_add 14 a1 a2 a3 a4 σ) := by
  refine x_con (L := [some (.ref 14), some (.int a1), some (.int a2), some (.int a3), some (.int a4)]) (by decide) rfl rfl rfl ?_
  unfold f_X3_add
  refine x_aload_n dX3_add_0 rfl rfl ?_
  refine x_getI dX3_add_1 lk_RX3_36 rfl rfl ?_
  refine x_bipush (v := 14) dX3_add_4 rfl ?_
  refine x_jn 80 (fun (v8 : Unit) => [none, none, none, none, none]) (fun (v8 : Unit) => []) (fun v8 s9 => ?_) (fun j10 hj10 => ?_)
  · exact x_vret dX3_add_80 rfl
  · refine x_icmp_ge 80 dX3_add_6 (by decide) (fun _ => ?_) (fun _ => ?_)
    · exact x_sub (x_le_n (x_le_n (x_le_n (x_le_n (x_le_n x_le_e))))) (hj10 () _)
    · refine x_aload_n dX3_add_9 rfl rfl ?_
      refine x_getR dX3_add_10 lk_RX3_9 rfl rfl ?_
      refine x_aload_n dX3_add_13 rfl rfl ?_
      refine x_getI dX3_add_14 lk_RX3_36 rfl rfl ?_
      refine x_iload_n dX3_add_17 rfl rfl ?_
      refine x_iastB dX3_add_18 rfl (fun s11 => ?_)
      refine x_aload_n dX3_add_19 rfl rfl ?_
      refine x_getR dX3_add_20 lk_RX3_15 rfl rfl ?_
      refine x_aload_n dX3_add_23 rfl rfl ?_
      refine x_getI dX3_add_24 lk_RX3_36 rfl rfl ?_
      refine x_iload_n dX3_add_27 rfl rfl ?_
      refine x_iastB dX3_add_28 rfl (fun s12 => ?_)
      refine x_aload_n dX3_add_29 rfl rfl ?_
      refine x_getR dX3_add_30 lk_RX3_18 rfl rfl ?_
      refine x_aload_n dX3_add_33 rfl rfl ?_
      refine x_getI dX3_add_34 lk_RX3_36 rfl rfl ?_
      refine x_iload_n dX3_add_37 rfl rfl ?_
      refine x_iastB dX3_add_38 rfl (fun s13 => ?_)
      refine x_aload_n dX3_add_39 rfl rfl ?_
      refine x_getR dX3_add_40 lk_RX3_33 rfl rfl ?_
      refine x_aload_n dX3_add_43 rfl rfl ?_
      refine x_getI dX3_add_44 lk_RX3_36 rfl rfl ?_
      refine x_iload dX3_add_47 rfl ?_
      refine x_iastB dX3_add_49 rfl (fun s14 => ?_)
      refine x_aload_n dX3_add_50 rfl rfl ?_
      refine x_getR dX3_add_51 lk_RX3_21 rfl rfl ?_
      refine x_aload_n dX3_add_54 rfl rfl ?_
      refine x_getI dX3_add_55 lk_RX3_36 rfl rfl ?_
      refine x_iconst (v := 0) dX3_add_58 rfl ?_
      refine x_iastB dX3_add_59 rfl (fun s15 => ?_)
      refine x_aload_n dX3_add_60 rfl rfl ?_
      refine x_getR dX3_add_61 lk_RX3_24 rfl rfl ?_
      refine x_aload_n dX3_add_64 rfl rfl ?_
      refine x_getI dX3_add_65 lk_RX3_36 rfl rfl ?_
      refine x_iconst (v := 0) dX3_add_68 rfl ?_
      refine x_iastB dX3_add_69 rfl (fun s16 => ?_)
      refine x_aload_n dX3_add_70 rfl rfl ?_
      refine x_dup dX3_add_71 rfl ?_
      refine x_getI dX3_add_72 lk_RX3_36 rfl rfl ?_
      refine x_iconst (v := 1) dX3_add_75 rfl ?_
      refine x_iadd dX3_add_76 ?_
      refine x_putIB dX3_add_77 lp_RX3_36 rfl rfl (fun s17 => ?_)
      exact x_sub (x_le_n (x_le_n (x_le_n (x_le_n (x_le_n x_le_e))))) (hj10 () _)

theorem t_X3_addPieces_5_5 (w1 : Int32) (w2 : Int32) (k : xSt → Option (Unit × xSt)) (hk : ∀ (σ : xSt), XP κv true m_X3_addPieces 1 shC 51 [none, none, none, none, none] [] σ (k  σ)) : ∀ (n : Nat) (w3 : Int32) (w4 : Int32) (σ : xSt), XP κv true m_X3_addPieces 1 shC 5 [some (.ref 5), some (.int w1), some (.int w2), some (.int w3), some (.int w4)] [] σ (f_X3_addPieces_5 5 w1 w2 k n w3 w4 σ) := by
  intro n
  induction n with
  | zero => intro w3 w4 σ; exact x_none
  | succ n ih =>
    intro w3 w4 σ
    rw [f_X3_addPieces_5]
    refine x_iload dX3_addPieces_5 rfl ?_
    refine x_bipush (v := 8) dX3_addPieces_7 rfl ?_
    refine x_icmp_ge 51 dX3_addPieces_9 (by decide) (fun _ => ?_) (fun _ => ?_)
    · exact x_sub (x_le_n (x_le_n (x_le_n (x_le_n (x_le_n x_le_e))))) (hk  _)
    · refine x_iload_n dX3_addPieces_12 rfl rfl ?_
      refine x_iconst (v := 1) dX3_addPieces_13 rfl ?_
      refine x_iload dX3_addPieces_14 rfl ?_
      refine x_ishl dX3_addPieces_16 ?_
      refine x_iand dX3_addPieces_17 ?_
      refine x_jn 45 (fun (v8 : Int32) => [some (.ref 5), some (.int w1), some (.int w2), some (.int v8), some (.int w4)]) (fun (v8 : Int32) => []) (fun v8 s9 => ?_) (fun j10 hj10 => ?_)
      · refine x_iinc dX3_addPieces_45 rfl rfl rfl rfl ?_
        refine x_goto 5 dX3_addPieces_48 (by decide) ?_
        exact x_sub (x_le_s rfl (x_le_s rfl (x_le_s rfl (x_le_s rfl (x_le_s rfl x_le_e))))) (ih _ _ _)
      · refine x_if_eq 45 dX3_addPieces_18 (by decide) (fun _ => ?_) (fun _ => ?_)
        · exact x_sub (x_le_s rfl (x_le_s rfl (x_le_s rfl (x_le_s rfl (x_le_s rfl x_le_e))))) (hj10 w3 _)
        · refine x_iload_n dX3_addPieces_21 rfl rfl ?_
          refine x_iconst (v := -1) dX3_addPieces_22 rfl ?_
          refine x_jn 42 (fun (v13 : Unit) => [some (.ref 5), some (.int w1), some (.int w2), none, some (.int w4)]) (fun (v13 : Unit) => []) (fun v13 s14 => ?_) (fun j15 hj15 => ?_)
          · refine x_iload dX3_addPieces_42 rfl ?_
            refine x_istore_n dX3_addPieces_44 rfl rfl rfl ?_
            exact x_sub (x_le_s rfl (x_le_s rfl (x_le_s rfl (x_le_s rfl (x_le_s rfl x_le_e))))) (hj10 w4 _)
          · refine x_icmp_eq 42 dX3_addPieces_23 (by decide) (fun _ => ?_) (fun _ => ?_)
            · exact x_sub (x_le_s rfl (x_le_s rfl (x_le_s rfl (x_le_n (x_le_s rfl x_le_e))))) (hj15 () _)
            · refine x_aload_n dX3_addPieces_26 rfl rfl ?_
              refine x_iload_n dX3_addPieces_27 rfl rfl ?_
              refine x_iload_n dX3_addPieces_28 rfl rfl ?_
              refine x_iload dX3_addPieces_29 rfl ?_
              refine x_iconst (v := 1) dX3_addPieces_31 rfl ?_
              refine x_iload_n dX3_addPieces_32 rfl rfl ?_
              refine x_ishl dX3_addPieces_33 ?_
              refine x_iconst (v := 1) dX3_addPieces_34 rfl ?_
              refine x_iload dX3_addPieces_35 rfl ?_
              refine x_ishl dX3_addPieces_37 ?_
              refine x_ior dX3_addPieces_38 ?_
              refine x_callV4v dX3_addPieces_39 lc_RX3_61 (c_X3_add_5 _ _ _ _ _) rfl rfl rfl rfl rfl (fun r16 s17 => ?_)
              exact x_sub (x_le_s rfl (x_le_s rfl (x_le_s rfl (x_le_n (x_le_s rfl x_le_e))))) (hj15 () _)

theorem c_X3_addPieces_5 (a1 : Int32) (a2 : Int32) (σ : xSt) : CON κv yX3_addPieces m_X3_addPieces true 1 shC [.ref 5, .int a1, .int a2] σ (f_X3_addPieces 5 a1 a2 σ) := by
  refine x_con (L := [some (.ref 5), some (.int a1), some (.int a2), none, none]) (by decide) rfl rfl rfl ?_
  unfold f_X3_addPieces
  refine x_iconst (v := -1) dX3_addPieces_0 rfl ?_
  refine x_istore_n dX3_addPieces_1 rfl rfl rfl ?_
  refine x_iconst (v := 0) dX3_addPieces_2 rfl ?_
  refine x_istore dX3_addPieces_3 rfl rfl ?_
  refine x_sub (x_le_s rfl (x_le_s rfl (x_le_s rfl (x_le_s rfl (x_le_s rfl x_le_e))))) (t_X3_addPieces_5_5 _ _ _ (fun  s18 => ?_) FU _ _ _)
  exact x_vret dX3_addPieces_51 rfl

theorem t_X3_addPieces_14_5 (w1 : Int32) (w2 : Int32) (k : xSt → Option (Unit × xSt)) (hk : ∀ (σ : xSt), XP κv true m_X3_addPieces 1 shC 51 [none, none, none, none, none] [] σ (k  σ)) : ∀ (n : Nat) (w3 : Int32) (w4 : Int32) (σ : xSt), XP κv true m_X3_addPieces 1 shC 5 [some (.ref 14), some (.int w1), some (.int w2), some (.int w3), some (.int w4)] [] σ (f_X3_addPieces_5 14 w1 w2 k n w3 w4 σ) := by
  intro n
  induction n with
  | zero => intro w3 w4 σ; exact x_none
  | succ n ih =>
    intro w3 w4 σ
    rw [f_X3_addPieces_5]
    refine x_iload dX3_addPieces_5 rfl ?_
    refine x_bipush (v := 8) dX3_addPieces_7 rfl ?_
    refine x_icmp_ge 51 dX3_addPieces_9 (by decide) (fun _ => ?_) (fun _ => ?_)
    · exact x_sub (x_le_n (x_le_n (x_le_n (x_le_n (x_le_n x_le_e))))) (hk  _)
    · refine x_iload_n dX3_addPieces_12 rfl rfl ?_
      refine x_iconst (v := 1) dX3_addPieces_13 rfl ?_
      refine x_iload dX3_addPieces_14 rfl ?_
      refine x_ishl dX3_addPieces_16 ?_
      refine x_iand dX3_addPieces_17 ?_
      refine x_jn 45 (fun (v8 : Int32) => [some (.ref 14), some (.int w1), some (.int w2), some (.int v8), some (.int w4)]) (fun (v8 : Int32) => []) (fun v8 s9 => ?_) (fun j10 hj10 => ?_)
      · refine x_iinc dX3_addPieces_45 rfl rfl rfl rfl ?_
        refine x_goto 5 dX3_addPieces_48 (by decide) ?_
        exact x_sub (x_le_s rfl (x_le_s rfl (x_le_s rfl (x_le_s rfl (x_le_s rfl x_le_e))))) (ih _ _ _)
      · refine x_if_eq 45 dX3_addPieces_18 (by decide) (fun _ => ?_) (fun _ => ?_)
        · exact x_sub (x_le_s rfl (x_le_s rfl (x_le_s rfl (x_le_s rfl (x_le_s rfl x_le_e))))) (hj10 w3 _)
        · refine x_iload_n dX3_addPieces_21 rfl rfl ?_
          refine x_iconst (v := -1) dX3_addPieces_22 rfl ?_
          refine x_jn 42 (fun (v13 : Unit) => [some (.ref 14), some (.int w1), some (.int w2), none, some (.int w4)]) (fun (v13 : Unit) => []) (fun v13 s14 => ?_) (fun j15 hj15 => ?_)
          · refine x_iload dX3_addPieces_42 rfl ?_
            refine x_istore_n dX3_addPieces_44 rfl rfl rfl ?_
            exact x_sub (x_le_s rfl (x_le_s rfl (x_le_s rfl (x_le_s rfl (x_le_s rfl x_le_e))))) (hj10 w4 _)
          · refine x_icmp_eq 42 dX3_addPieces_23 (by decide) (fun _ => ?_) (fun _ => ?_)
            · exact x_sub (x_le_s rfl (x_le_s rfl (x_le_s rfl (x_le_n (x_le_s rfl x_le_e))))) (hj15 () _)
            · refine x_aload_n dX3_addPieces_26 rfl rfl ?_
              refine x_iload_n dX3_addPieces_27 rfl rfl ?_
              refine x_iload_n dX3_addPieces_28 rfl rfl ?_
              refine x_iload dX3_addPieces_29 rfl ?_
              refine x_iconst (v := 1) dX3_addPieces_31 rfl ?_
              refine x_iload_n dX3_addPieces_32 rfl rfl ?_
              refine x_ishl dX3_addPieces_33 ?_
              refine x_iconst (v := 1) dX3_addPieces_34 rfl ?_
              refine x_iload dX3_addPieces_35 rfl ?_
              refine x_ishl dX3_addPieces_37 ?_
              refine x_ior dX3_addPieces_38 ?_
              refine x_callV4v dX3_addPieces_39 lc_RX3_61 (c_X3_add_14 _ _ _ _ _) rfl rfl rfl rfl rfl (fun r16 s17 => ?_)
              exact x_sub (x_le_s rfl (x_le_s rfl (x_le_s rfl (x_le_n (x_le_s rfl x_le_e))))) (hj15 () _)

theorem c_X3_addPieces_14 (a1 : Int32) (a2 : Int32) (σ : xSt) : CON κv yX3_addPieces m_X3_addPieces true 1 shC [.ref 14, .int a1, .int a2] σ (f_X3_addPieces 14 a1 a2 σ) := by
  refine x_con (L := [some (.ref 14), some (.int a1), some (.int a2), none, none]) (by decide) rfl rfl rfl ?_
  unfold f_X3_addPieces
  refine x_iconst (v := -1) dX3_addPieces_0 rfl ?_
  refine x_istore_n dX3_addPieces_1 rfl rfl rfl ?_
  refine x_iconst (v := 0) dX3_addPieces_2 rfl ?_
  refine x_istore dX3_addPieces_3 rfl rfl ?_
  refine x_sub (x_le_s rfl (x_le_s rfl (x_le_s rfl (x_le_s rfl (x_le_s rfl x_le_e))))) (t_X3_addPieces_14_5 _ _ _ (fun  s18 => ?_) FU _ _ _)
  exact x_vret dX3_addPieces_51 rfl

theorem t_X6_lowest_2 (w0 : Int32) (k : xSt → Option (Int32 × xSt)) (hk : ∀ (σ : xSt), XP κi true m_X6_lowest 0 shC 24 [none, none] [] σ (k  σ)) : ∀ (n : Nat) (w1 : Int32) (σ : xSt), XP κi true m_X6_lowest 0 shC 2 [some (.int w0), some (.int w1)] [] σ (f_X6_lowest_2 w0 k n w1 σ) := by
  intro n
  induction n with
  | zero => intro w1 σ; exact x_none
  | succ n ih =>
    intro w1 σ
    rw [f_X6_lowest_2]
    refine x_iload_n dX6_lowest_2 rfl rfl ?_
    refine x_bipush (v := 31) dX6_lowest_3 rfl ?_
    refine x_icmp_ge 24 dX6_lowest_5 (by decide) (fun _ => ?_) (fun _ => ?_)
    · exact x_sub (x_le_n (x_le_n x_le_e)) (hk  _)
    · refine x_iload_n dX6_lowest_8 rfl rfl ?_
      refine x_iconst (v := 1) dX6_lowest_9 rfl ?_
      refine x_iload_n dX6_lowest_10 rfl rfl ?_
      refine x_ishl dX6_lowest_11 ?_
      refine x_iand dX6_lowest_12 ?_
      refine x_if_eq 18 dX6_lowest_13 (by decide) (fun _ => ?_) (fun _ => ?_)
      · refine x_iinc dX6_lowest_18 rfl rfl rfl rfl ?_
        refine x_goto 2 dX6_lowest_21 (by decide) ?_
        exact x_sub (x_le_s rfl (x_le_s rfl x_le_e)) (ih _ _)
      · refine x_iload_n dX6_lowest_16 rfl rfl ?_
        exact x_iret dX6_lowest_17 rfl

theorem c_X6_lowest (a0 : Int32) (σ : xSt) : CON κi yX6_lowest m_X6_lowest true 0 shC [.int a0] σ (f_X6_lowest a0 σ) := by
  refine x_con (L := [some (.int a0), none]) (by decide) rfl rfl rfl ?_
  unfold f_X6_lowest
  refine x_iconst (v := 0) dX6_lowest_0 rfl ?_
  refine x_istore_n dX6_lowest_1 rfl rfl rfl ?_
  refine x_sub (x_le_s rfl (x_le_s rfl x_le_e)) (t_X6_lowest_2 _ _ (fun  s1 => ?_) FU _ _)
  refine x_iconst (v := -1) dX6_lowest_24 rfl ?_
  exact x_iret dX6_lowest_25 rfl

theorem t_X6_highest_3 (w0 : Int32) (k : xSt → Option (Int32 × xSt)) (hk : ∀ (σ : xSt), XP κi true m_X6_highest 0 shC 23 [none, none] [] σ (k  σ)) : ∀ (n : Nat) (w1 : Int32) (σ : xSt), XP κi true m_X6_highest 0 shC 3 [some (.int w0), some (.int w1)] [] σ (f_X6_highest_3 w0 k n w1 σ) := by
  intro n
  induction n with
  | zero => intro w1 σ; exact x_none
  | succ n ih =>
    intro w1 σ
    rw [f_X6_highest_3]
    refine x_iload_n dX6_highest_3 rfl rfl ?_
    refine x_if_lt 23 dX6_highest_4 (by decide) (fun _ => ?_) (fun _ => ?_)
    · exact x_sub (x_le_n (x_le_n x_le_e)) (hk  _)
    · refine x_iload_n dX6_highest_7 rfl rfl ?_
      refine x_iconst (v := 1) dX6_highest_8 rfl ?_
      refine x_iload_n dX6_highest_9 rfl rfl ?_
      refine x_ishl dX6_highest_10 ?_
      refine x_iand dX6_highest_11 ?_
      refine x_if_eq 17 dX6_highest_12 (by decide) (fun _ => ?_) (fun _ => ?_)
      · refine x_iinc dX6_highest_17 rfl rfl rfl rfl ?_
        refine x_goto 3 dX6_highest_20 (by decide) ?_
        exact x_sub (x_le_s rfl (x_le_s rfl x_le_e)) (ih _ _)
      · refine x_iload_n dX6_highest_15 rfl rfl ?_
        exact x_iret dX6_highest_16 rfl

theorem c_X6_highest (a0 : Int32) (σ : xSt) : CON κi yX6_highest m_X6_highest true 0 shC [.int a0] σ (f_X6_highest a0 σ) := by
  refine x_con (L := [some (.int a0), none]) (by decide) rfl rfl rfl ?_
  unfold f_X6_highest
  refine x_bipush (v := 30) dX6_highest_0 rfl ?_
  refine x_istore_n dX6_highest_2 rfl rfl rfl ?_
  refine x_sub (x_le_s rfl (x_le_s rfl x_le_e)) (t_X6_highest_3 _ _ (fun  s1 => ?_) FU _ _)
  refine x_iconst (v := -1) dX6_highest_23 rfl ?_
  exact x_iret dX6_highest_24 rfl

theorem t_X3_constrain_5_31 (w1 : Int32) (w3 : Int32) (w4 : Int32) (w5 : Int32) (w2 : Int32) (k : xSt → Option (Unit × xSt)) (hk : ∀ (σ : xSt), XP κv true m_X3_constrain 1 shC 90 [some (.ref 5), some (.int w1), some (.int w2), some (.int w3), some (.int w4), none, none] [] σ (k  σ)) : ∀ (n : Nat) (w6 : Int32) (σ : xSt), XP κv true m_X3_constrain 1 shC 31 [some (.ref 5), some (.int w1), some (.int w2), some (.int w3), some (.int w4), some (.int w5), some (.int w6)] [] σ (f_X3_constrain_31 5 w1 w3 w4 w5 k n w6 σ) := by
  intro n
  induction n with
  | zero => intro w6 σ; exact x_none
  | succ n ih =>
    intro w6 σ
    rw [f_X3_constrain_31]
    refine x_iload dX3_constrain_31 rfl ?_
    refine x_if_eq 90 dX3_constrain_33 (by decide) (fun _ => ?_) (fun _ => ?_)
    · exact x_sub (x_le_s rfl (x_le_s rfl (x_le_s rfl (x_le_s rfl (x_le_s rfl (x_le_n (x_le_n x_le_e))))))) (hk  _)
    · refine x_iload dX3_constrain_36 rfl ?_
      refine x_aload_n dX3_constrain_38 rfl rfl ?_
      refine x_getI dX3_constrain_39 lk_RX3_36 rfl rfl ?_
      refine x_icmp_ge 90 dX3_constrain_42 (by decide) (fun _ => ?_) (fun _ => ?_)
      · exact x_sub (x_le_s rfl (x_le_s rfl (x_le_s rfl (x_le_s rfl (x_le_s rfl (x_le_n (x_le_n x_le_e))))))) (hk  _)
      · refine x_aload_n dX3_constrain_45 rfl rfl ?_
        refine x_iload dX3_constrain_46 rfl ?_
        refine x_iload_n dX3_constrain_48 rfl rfl ?_
        refine x_iload_n dX3_constrain_49 rfl rfl ?_
        refine x_callV3i dX3_constrain_50 lc_RX3_83 (c_X3_isJoined_5 _ _ _ _) rfl rfl rfl rfl rfl (fun r3 s4 => ?_)
        refine x_jn 84 (fun (v7 : Unit) => [some (.ref 5), some (.int w1), some (.int w2), some (.int w3), some (.int w4), some (.int w5), some (.int w6)]) (fun (v7 : Unit) => []) (fun v7 s8 => ?_) (fun j9 hj9 => ?_)
        · refine x_iinc dX3_constrain_84 rfl rfl rfl rfl ?_
          refine x_goto 31 dX3_constrain_87 (by decide) ?_
          exact x_sub (x_le_s rfl (x_le_s rfl (x_le_s rfl (x_le_s rfl (x_le_s rfl (x_le_s rfl (x_le_s rfl x_le_e))))))) (ih _ _)
        · refine x_if_eq 84 dX3_constrain_53 (by decide) (fun _ => ?_) (fun _ => ?_)
          · exact x_sub (x_le_s rfl (x_le_s rfl (x_le_s rfl (x_le_s rfl (x_le_s rfl (x_le_s rfl (x_le_s rfl x_le_e))))))) (hj9 () _)
          · refine x_aload_n dX3_constrain_56 rfl rfl ?_
            refine x_getR dX3_constrain_57 lk_RX3_21 rfl rfl ?_
            refine x_iload dX3_constrain_60 rfl ?_
            refine x_dup2 dX3_constrain_62 rfl rfl ?_
            refine x_iald dX3_constrain_63 rfl ?_
            refine x_iconst (v := 1) dX3_constrain_64 rfl ?_
            refine x_iload dX3_constrain_65 rfl ?_
            refine x_ishl dX3_constrain_67 ?_
            refine x_ior dX3_constrain_68 ?_
            refine x_iastB dX3_constrain_69 rfl (fun s10 => ?_)
            refine x_aload_n dX3_constrain_70 rfl rfl ?_
            refine x_getR dX3_constrain_71 lk_RX3_24 rfl rfl ?_
            refine x_iload dX3_constrain_74 rfl ?_
            refine x_dup2 dX3_constrain_76 rfl rfl ?_
            refine x_iald dX3_constrain_77 rfl ?_
            refine x_iconst (v := 1) dX3_constrain_78 rfl ?_
            refine x_iload dX3_constrain_79 rfl ?_
            refine x_ishl dX3_constrain_81 ?_
            refine x_ior dX3_constrain_82 ?_
            refine x_iastB dX3_constrain_83 rfl (fun s11 => ?_)
            exact x_sub (x_le_s rfl (x_le_s rfl (x_le_s rfl (x_le_s rfl (x_le_s rfl (x_le_s rfl (x_le_s rfl x_le_e))))))) (hj9 () _)

theorem t_X3_constrain_5_9 (w1 : Int32) (w2 : Int32) (w3 : Int32) (k : xSt → Option (Unit × xSt)) (hk : ∀ (σ : xSt), XP κv true m_X3_constrain 1 shC 96 [none, none, none, none, none, none, none] [] σ (k  σ)) : ∀ (n : Nat) (w4 : Int32) (σ : xSt), XP κv true m_X3_constrain 1 shC 9 [some (.ref 5), some (.int w1), some (.int w2), some (.int w3), some (.int w4), none, none] [] σ (f_X3_constrain_9 5 w1 w2 w3 k n w4 σ) := by
  intro n
  induction n with
  | zero => intro w4 σ; exact x_none
  | succ n ih =>
    intro w4 σ
    rw [f_X3_constrain_9]
    refine x_iload dX3_constrain_9 rfl ?_
    refine x_aload_n dX3_constrain_11 rfl rfl ?_
    refine x_getI dX3_constrain_12 lk_RX3_36 rfl rfl ?_
    refine x_icmp_ge 96 dX3_constrain_15 (by decide) (fun _ => ?_) (fun _ => ?_)
    · exact x_sub (x_le_n (x_le_n (x_le_n (x_le_n (x_le_n (x_le_n (x_le_n x_le_e))))))) (hk  _)
    · refine x_aload_n dX3_constrain_18 rfl rfl ?_
      refine x_iload dX3_constrain_19 rfl ?_
      refine x_iload_n dX3_constrain_21 rfl rfl ?_
      refine x_iload_n dX3_constrain_22 rfl rfl ?_
      refine x_callV3i dX3_constrain_23 lc_RX3_83 (c_X3_isJoined_5 _ _ _ _) rfl rfl rfl rfl rfl (fun r1 s2 => ?_)
      refine x_istore dX3_constrain_26 rfl rfl ?_
      refine x_iconst (v := 0) dX3_constrain_28 rfl ?_
      refine x_istore dX3_constrain_29 rfl rfl ?_
      refine x_sub (x_le_s rfl (x_le_s rfl (x_le_s rfl (x_le_s rfl (x_le_s rfl (x_le_s rfl (x_le_s rfl x_le_e))))))) (t_X3_constrain_5_31 _ _ _ _ _ _ (fun  s12 => ?_) FU _ _)
      refine x_iinc dX3_constrain_90 rfl rfl rfl rfl ?_
      refine x_goto 9 dX3_constrain_93 (by decide) ?_
      exact x_sub (x_le_s rfl (x_le_s rfl (x_le_s rfl (x_le_s rfl (x_le_s rfl (x_le_n (x_le_n x_le_e))))))) (ih _ _)

theorem c_X3_constrain_5 (a1 : Int32) (a2 : Int32) (a3 : Int32) (σ : xSt) : CON κv yX3_constrain m_X3_constrain true 1 shC [.ref 5, .int a1, .int a2, .int a3] σ (f_X3_constrain 5 a1 a2 a3 σ) := by
  refine x_con (L := [some (.ref 5), some (.int a1), some (.int a2), some (.int a3), none, none, none]) (by decide) rfl rfl rfl ?_
  unfold f_X3_constrain
  refine x_iload_n dX3_constrain_0 rfl rfl ?_
  refine x_iload_n dX3_constrain_1 rfl rfl ?_
  refine x_icmp_ne 6 dX3_constrain_2 (by decide) (fun _ => ?_) (fun _ => ?_)
  · refine x_iconst (v := 0) dX3_constrain_6 rfl ?_
    refine x_istore dX3_constrain_7 rfl rfl ?_
    refine x_sub (x_le_s rfl (x_le_s rfl (x_le_s rfl (x_le_s rfl (x_le_s rfl (x_le_n (x_le_n x_le_e))))))) (t_X3_constrain_5_9 _ _ _ _ (fun  s13 => ?_) FU _ _)
    exact x_vret dX3_constrain_96 rfl
  · exact x_vret dX3_constrain_5 rfl

theorem t_X3_constrain_14_31 (w1 : Int32) (w3 : Int32) (w4 : Int32) (w5 : Int32) (w2 : Int32) (k : xSt → Option (Unit × xSt)) (hk : ∀ (σ : xSt), XP κv true m_X3_constrain 1 shC 90 [some (.ref 14), some (.int w1), some (.int w2), some (.int w3), some (.int w4), none, none] [] σ (k  σ)) : ∀ (n : Nat) (w6 : Int32) (σ : xSt), XP κv true m_X3_constrain 1 shC 31 [some (.ref 14), some (.int w1), some (.int w2), some (.int w3), some (.int w4), some (.int w5), some (.int w6)] [] σ (f_X3_constrain_31 14 w1 w3 w4 w5 k n w6 σ) := by
  intro n
  induction n with
  | zero => intro w6 σ; exact x_none
  | succ n ih =>
    intro w6 σ
    rw [f_X3_constrain_31]
    refine x_iload dX3_constrain_31 rfl ?_
    refine x_if_eq 90 dX3_constrain_33 (by decide) (fun _ => ?_) (fun _ => ?_)
    · exact x_sub (x_le_s rfl (x_le_s rfl (x_le_s rfl (x_le_s rfl (x_le_s rfl (x_le_n (x_le_n x_le_e))))))) (hk  _)
    · refine x_iload dX3_constrain_36 rfl ?_
      refine x_aload_n dX3_constrain_38 rfl rfl ?_
      refine x_getI dX3_constrain_39 lk_RX3_36 rfl rfl ?_
      refine x_icmp_ge 90 dX3_constrain_42 (by decide) (fun _ => ?_) (fun _ => ?_)
      · exact x_sub (x_le_s rfl (x_le_s rfl (x_le_s rfl (x_le_s rfl (x_le_s rfl (x_le_n (x_le_n x_le_e))))))) (hk  _)
      · refine x_aload_n dX3_constrain_45 rfl rfl ?_
        refine x_iload dX3_constrain_46 rfl ?_
        refine x_iload_n dX3_constrain_48 rfl rfl ?_
        refine x_iload_n dX3_constrain_49 rfl rfl ?_
        refine x_callV3i dX3_constrain_50 lc_RX3_83 (c_X3_isJoined_14 _ _ _ _) rfl rfl rfl rfl rfl (fun r3 s4 => ?_)
        refine x_jn 84 (fun (v7 : Unit) => [some (.ref 14), some (.int w1), some (.int w2), some (.int w3), some (.int w4), some (.int w5), some (.int w6)]) (fun (v7 : Unit) => []) (fun v7 s8 => ?_) (fun j9 hj9 => ?_)
        · refine x_iinc dX3_constrain_84 rfl rfl rfl rfl ?_
          refine x_goto 31 dX3_constrain_87 (by decide) ?_
          exact x_sub (x_le_s rfl (x_le_s rfl (x_le_s rfl (x_le_s rfl (x_le_s rfl (x_le_s rfl (x_le_s rfl x_le_e))))))) (ih _ _)
        · refine x_if_eq 84 dX3_constrain_53 (by decide) (fun _ => ?_) (fun _ => ?_)
          · exact x_sub (x_le_s rfl (x_le_s rfl (x_le_s rfl (x_le_s rfl (x_le_s rfl (x_le_s rfl (x_le_s rfl x_le_e))))))) (hj9 () _)
          · refine x_aload_n dX3_constrain_56 rfl rfl ?_
            refine x_getR dX3_constrain_57 lk_RX3_21 rfl rfl ?_
            refine x_iload dX3_constrain_60 rfl ?_
            refine x_dup2 dX3_constrain_62 rfl rfl ?_
            refine x_iald dX3_constrain_63 rfl ?_
            refine x_iconst (v := 1) dX3_constrain_64 rfl ?_
            refine x_iload dX3_constrain_65 rfl ?_
            refine x_ishl dX3_constrain_67 ?_
            refine x_ior dX3_constrain_68 ?_
            refine x_iastB dX3_constrain_69 rfl (fun s10 => ?_)
            refine x_aload_n dX3_constrain_70 rfl rfl ?_
            refine x_getR dX3_constrain_71 lk_RX3_24 rfl rfl ?_
            refine x_iload dX3_constrain_74 rfl ?_
            refine x_dup2 dX3_constrain_76 rfl rfl ?_
            refine x_iald dX3_constrain_77 rfl ?_
            refine x_iconst (v := 1) dX3_constrain_78 rfl ?_
            refine x_iload dX3_constrain_79 rfl ?_
            refine x_ishl dX3_constrain_81 ?_
            refine x_ior dX3_constrain_82 ?_
            refine x_iastB dX3_constrain_83 rfl (fun s11 => ?_)
            exact x_sub (x_le_s rfl (x_le_s rfl (x_le_s rfl (x_le_s rfl (x_le_s rfl (x_le_s rfl (x_le_s rfl x_le_e))))))) (hj9 () _)

theorem t_X3_constrain_14_9 (w1 : Int32) (w2 : Int32) (w3 : Int32) (k : xSt → Option (Unit × xSt)) (hk : ∀ (σ : xSt), XP κv true m_X3_constrain 1 shC 96 [none, none, none, none, none, none, none] [] σ (k  σ)) : ∀ (n : Nat) (w4 : Int32) (σ : xSt), XP κv true m_X3_constrain 1 shC 9 [some (.ref 14), some (.int w1), some (.int w2), some (.int w3), some (.int w4), none, none] [] σ (f_X3_constrain_9 14 w1 w2 w3 k n w4 σ) := by
  intro n
  induction n with
  | zero => intro w4 σ; exact x_none
  | succ n ih =>
    intro w4 σ
    rw [f_X3_constrain_9]
    refine x_iload dX3_constrain_9 rfl ?_
    refine x_aload_n dX3_constrain_11 rfl rfl ?_
    refine x_getI dX3_constrain_12 lk_RX3_36 rfl rfl ?_
    refine x_icmp_ge 96 dX3_constrain_15 (by decide) (fun _ => ?_) (fun _ => ?_)
    · exact x_sub (x_le_n (x_le_n (x_le_n (x_le_n (x_le_n (x_le_n (x_le_n x_le_e))))))) (hk  _)
    · refine x_aload_n dX3_constrain_18 rfl rfl ?_
      refine x_iload dX3_constrain_19 rfl ?_
      refine x_iload_n dX3_constrain_21 rfl rfl ?_
      refine x_iload_n dX3_constrain_22 rfl rfl ?_
      refine x_callV3i dX3_constrain_23 lc_RX3_83 (c_X3_isJoined_14 _ _ _ _) rfl rfl rfl rfl rfl (fun r1 s2 => ?_)
      refine x_istore dX3_constrain_26 rfl rfl ?_
      refine x_iconst (v := 0) dX3_constrain_28 rfl ?_
      refine x_istore dX3_constrain_29 rfl rfl ?_
      refine x_sub (x_le_s rfl (x_le_s rfl (x_le_s rfl (x_le_s rfl (x_le_s rfl (x_le_s rfl (x_le_s rfl x_le_e))))))) (t_X3_constrain_14_31 _ _ _ _ _ _ (fun  s12 => ?_) FU _ _)
      refine x_iinc dX3_constrain_90 rfl rfl rfl rfl ?_
      refine x_goto 9 dX3_constrain_93 (by decide) ?_
      exact x_sub (x_le_s rfl (x_le_s rfl (x_le_s rfl (x_le_s rfl (x_le_s rfl (x_le_n (x_le_n x_le_e))))))) (ih _ _)

theorem c_X3_constrain_14 (a1 : Int32) (a2 : Int32) (a3 : Int32) (σ : xSt) : CON κv yX3_constrain m_X3_constrain true 1 shC [.ref 14, .int a1, .int a2, .int a3] σ (f_X3_constrain 14 a1 a2 a3 σ) := by
  refine x_con (L := [some (.ref 14), some (.int a1), some (.int a2), some (.int a3), none, none, none]) (by decide) rfl rfl rfl ?_
  unfold f_X3_constrain
  refine x_iload_n dX3_constrain_0 rfl rfl ?_
  refine x_iload_n dX3_constrain_1 rfl rfl ?_
  refine x_icmp_ne 6 dX3_constrain_2 (by decide) (fun _ => ?_) (fun _ => ?_)
  · refine x_iconst (v := 0) dX3_constrain_6 rfl ?_
    refine x_istore dX3_constrain_7 rfl rfl ?_
    refine x_sub (x_le_s rfl (x_le_s rfl (x_le_s rfl (x_le_s rfl (x_le_s rfl (x_le_n (x_le_n x_le_e))))))) (t_X3_constrain_14_9 _ _ _ _ (fun  s13 => ?_) FU _ _)
    exact x_vret dX3_constrain_96 rfl
  · exact x_vret dX3_constrain_5 rfl

theorem t_X3_build_5_7 (w2 : Int32) (k : xSt → Option (Unit × xSt)) (hk : ∀ (σ : xSt), XP κv true m_X3_build 2 shC 70 [some (.ref 5), some (.ref 3), none, none, none] [] σ (k  σ)) : ∀ (n : Nat) (w3 : Int32) (σ : xSt), XP κv true m_X3_build 2 shC 7 [some (.ref 5), some (.ref 3), some (.int w2), some (.int w3), none] [] σ (f_X3_build_7 5 w2 k n w3 σ) := by
  intro n
  induction n with
  | zero => intro w3 σ; exact x_none
  | succ n ih =>
    intro w3 σ
    rw [f_X3_build_7]
    refine x_iload_n dX3_build_7 rfl rfl ?_
    refine x_bipush (v := 6) dX3_build_8 rfl ?_
    refine x_icmp_ge 70 dX3_build_10 (by decide) (fun _ => ?_) (fun _ => ?_)
    · exact x_sub (x_le_s rfl (x_le_s rfl (x_le_n (x_le_n (x_le_n x_le_e))))) (hk  _)
    · refine x_aload_n dX3_build_13 rfl rfl ?_
      refine x_iload_n dX3_build_14 rfl rfl ?_
      refine x_callV1i dX3_build_15 lc_RX3_40 (c_X0_columnsWith _ _) rfl rfl rfl rfl rfl (fun r2 s3 => ?_)
      refine x_istore dX3_build_18 rfl rfl ?_
      refine x_iload_n dX3_build_20 rfl rfl ?_
      refine x_iconst (v := 1) dX3_build_21 rfl ?_
      refine x_iload_n dX3_build_22 rfl rfl ?_
      refine x_ishl dX3_build_23 ?_
      refine x_iand dX3_build_24 ?_
      refine x_jn 64 (fun (v14 : Unit) => [some (.ref 5), some (.ref 3), some (.int w2), some (.int w3), none]) (fun (v14 : Unit) => []) (fun v14 s15 => ?_) (fun j16 hj16 => ?_)
      · refine x_iinc dX3_build_64 rfl rfl rfl rfl ?_
        refine x_goto 7 dX3_build_67 (by decide) ?_
        exact x_sub (x_le_s rfl (x_le_s rfl (x_le_s rfl (x_le_s rfl (x_le_n x_le_e))))) (ih _ _)
      · refine x_if_eq 38 dX3_build_25 (by decide) (fun _ => ?_) (fun _ => ?_)
        · refine x_iload dX3_build_38 rfl ?_
          refine x_callS1i dX3_build_40 lc_RX3_50 (c_J6_bitCount_0f7a4 _ _) rfl rfl (fun r17 s18 => ?_)
          refine x_iconst (v := 1) dX3_build_43 rfl ?_
          refine x_icmp_le 64 dX3_build_44 (by decide) (fun _ => ?_) (fun _ => ?_)
          · exact x_sub (x_le_s rfl (x_le_s rfl (x_le_s rfl (x_le_s rfl (x_le_n x_le_e))))) (hj16 () _)
          · refine x_aload_n dX3_build_47 rfl rfl ?_
            refine x_iload_n dX3_build_48 rfl rfl ?_
            refine x_iload dX3_build_49 rfl ?_
            refine x_callN1i dX3_build_51 lc_RX3_55 ln_RX3_55 (c_X6_lowest _ _) rfl rfl (fun r19 s20 => ?_)
            refine x_iload dX3_build_54 rfl ?_
            refine x_callN1i dX3_build_56 lc_RX3_58 ln_RX3_58 (c_X6_highest _ _) rfl rfl (fun r21 s22 => ?_)
            refine x_iload dX3_build_59 rfl ?_
            refine x_callV4v dX3_build_61 lc_RX3_61 (c_X3_add_5 _ _ _ _ _) rfl rfl rfl rfl rfl (fun r23 s24 => ?_)
            exact x_sub (x_le_s rfl (x_le_s rfl (x_le_s rfl (x_le_s rfl (x_le_n x_le_e))))) (hj16 () _)
        · refine x_aload_n dX3_build_28 rfl rfl ?_
          refine x_iload_n dX3_build_29 rfl rfl ?_
          refine x_iload dX3_build_30 rfl ?_
          refine x_callV2v dX3_build_32 lc_RX3_46 (c_X3_addPieces_5 _ _ _) rfl rfl rfl rfl rfl (fun r25 s26 => ?_)
          refine x_goto 64 dX3_build_35 (by decide) ?_
          exact x_sub (x_le_s rfl (x_le_s rfl (x_le_s rfl (x_le_s rfl (x_le_n x_le_e))))) (hj16 () _)

theorem t_X3_build_5_72 (k : xSt → Option (Unit × xSt)) (hk : ∀ (σ : xSt), XP κv true m_X3_build 2 shC 103 [some (.ref 5), none, none, none, none] [] σ (k  σ)) : ∀ (n : Nat) (w3 : Int32) (σ : xSt), XP κv true m_X3_build 2 shC 72 [some (.ref 5), some (.ref 3), none, some (.int w3), none] [] σ (f_X3_build_72 5 k n w3 σ) := by
  intro n
  induction n with
  | zero => intro w3 σ; exact x_none
  | succ n ih =>
    intro w3 σ
    rw [f_X3_build_72]
    refine x_iload_n dX3_build_72 rfl rfl ?_
    refine x_aload_n dX3_build_73 rfl rfl ?_
    refine x_getI dX3_build_74 lk_RX3_65 rfl rfl ?_
    refine x_icmp_ge 103 dX3_build_77 (by decide) (fun _ => ?_) (fun _ => ?_)
    · exact x_sub (x_le_s rfl (x_le_n (x_le_n (x_le_n (x_le_n x_le_e))))) (hk  _)
    · refine x_aload_n dX3_build_80 rfl rfl ?_
      refine x_iload_n dX3_build_81 rfl rfl ?_
      refine x_aload_n dX3_build_82 rfl rfl ?_
      refine x_iload_n dX3_build_83 rfl rfl ?_
      refine x_iconst (v := 0) dX3_build_84 rfl ?_
      refine x_callV2i dX3_build_85 lc_RX3_68 (c_X0_netOf _ _ _) rfl rfl rfl rfl rfl (fun r28 s29 => ?_)
      refine x_aload_n dX3_build_88 rfl rfl ?_
      refine x_iload_n dX3_build_89 rfl rfl ?_
      refine x_iconst (v := 1) dX3_build_90 rfl ?_
      refine x_callV2i dX3_build_91 lc_RX3_68 (c_X0_netOf _ _ _) rfl rfl rfl rfl rfl (fun r30 s31 => ?_)
      refine x_callV3v dX3_build_94 lc_RX3_72 (c_X3_constrain_5 _ _ _ _) rfl rfl rfl rfl rfl (fun r32 s33 => ?_)
      refine x_iinc dX3_build_97 rfl rfl rfl rfl ?_
      refine x_goto 72 dX3_build_100 (by decide) ?_
      exact x_sub (x_le_s rfl (x_le_s rfl (x_le_n (x_le_s rfl (x_le_n x_le_e))))) (ih _ _)

theorem c_X3_build_5 (a2 : Int32) (σ : xSt) : CON κv yX3_build m_X3_build true 2 shC [.ref 5, .ref 3, .int a2] σ (f_X3_build 5 a2 σ) := by
  refine x_con (L := [some (.ref 5), some (.ref 3), some (.int a2), none, none]) (by decide) rfl rfl rfl ?_
  unfold f_X3_build
  refine x_aload_n dX3_build_0 rfl rfl ?_
  refine x_iconst (v := 0) dX3_build_1 rfl ?_
  refine x_putIB dX3_build_2 lp_RX3_36 rfl rfl (fun s1 => ?_)
  refine x_iconst (v := 0) dX3_build_5 rfl ?_
  refine x_istore_n dX3_build_6 rfl rfl rfl ?_
  refine x_sub (x_le_s rfl (x_le_s rfl (x_le_s rfl (x_le_s rfl (x_le_n x_le_e))))) (t_X3_build_5_7 _ _ (fun  s27 => ?_) FU _ _)
  refine x_iconst (v := 0) dX3_build_70 rfl ?_
  refine x_istore_n dX3_build_71 rfl rfl rfl ?_
  refine x_sub (x_le_s rfl (x_le_s rfl (x_le_n (x_le_s rfl (x_le_n x_le_e))))) (t_X3_build_5_72 _ (fun  s34 => ?_) FU _ _)
  refine x_aload_n dX3_build_103 rfl rfl ?_
  refine x_aload_n dX3_build_104 rfl rfl ?_
  refine x_aload_n dX3_build_105 rfl rfl ?_
  refine x_getR dX3_build_106 lk_RX3_24 rfl rfl ?_
  refine x_aload_n dX3_build_109 rfl rfl ?_
  refine x_getR dX3_build_110 lk_RX3_27 rfl rfl ?_
  refine x_callV2i dX3_build_113 lc_RX3_76 (c_X3_rank_5_10_11 _) rfl rfl rfl rfl rfl (fun r35 s36 => ?_)
  refine x_putIB dX3_build_116 lp_RX3_80 rfl rfl (fun s37 => ?_)
  refine x_aload_n dX3_build_119 rfl rfl ?_
  refine x_aload_n dX3_build_120 rfl rfl ?_
  refine x_getR dX3_build_121 lk_RX3_21 rfl rfl ?_
  refine x_aload_n dX3_build_124 rfl rfl ?_
  refine x_getR dX3_build_125 lk_RX3_30 rfl rfl ?_
  refine x_callV2i dX3_build_128 lc_RX3_76 (c_X3_rank_5_9_12 _) rfl rfl rfl rfl rfl (fun r38 s39 => ?_)
  refine x_pop dX3_build_131 rfl ?_
  exact x_vret dX3_build_132 rfl

theorem t_X3_build_14_7 (w2 : Int32) (k : xSt → Option (Unit × xSt)) (hk : ∀ (σ : xSt), XP κv true m_X3_build 2 shC 70 [some (.ref 14), some (.ref 3), none, none, none] [] σ (k  σ)) : ∀ (n : Nat) (w3 : Int32) (σ : xSt), XP κv true m_X3_build 2 shC 7 [some (.ref 14), some (.ref 3), some (.int w2), some (.int w3), none] [] σ (f_X3_build_7 14 w2 k n w3 σ) := by
  intro n
  induction n with
  | zero => intro w3 σ; exact x_none
  | succ n ih =>
    intro w3 σ
    rw [f_X3_build_7]
    refine x_iload_n dX3_build_7 rfl rfl ?_
    refine x_bipush (v := 6) dX3_build_8 rfl ?_
    refine x_icmp_ge 70 dX3_build_10 (by decide) (fun _ => ?_) (fun _ => ?_)
    · exact x_sub (x_le_s rfl (x_le_s rfl (x_le_n (x_le_n (x_le_n x_le_e))))) (hk  _)
    · refine x_aload_n dX3_build_13 rfl rfl ?_
      refine x_iload_n dX3_build_14 rfl rfl ?_
      refine x_callV1i dX3_build_15 lc_RX3_40 (c_X0_columnsWith _ _) rfl rfl rfl rfl rfl (fun r2 s3 => ?_)
      refine x_istore dX3_build_18 rfl rfl ?_
      refine x_iload_n dX3_build_20 rfl rfl ?_
      refine x_iconst (v := 1) dX3_build_21 rfl ?_
      refine x_iload_n dX3_build_22 rfl rfl ?_
      refine x_ishl dX3_build_23 ?_
      refine x_iand dX3_build_24 ?_
      refine x_jn 64 (fun (v14 : Unit) => [some (.ref 14), some (.ref 3), some (.int w2), some (.int w3), none]) (fun (v14 : Unit) => []) (fun v14 s15 => ?_) (fun j16 hj16 => ?_)
      · refine x_iinc dX3_build_64 rfl rfl rfl rfl ?_
        refine x_goto 7 dX3_build_67 (by decide) ?_
        exact x_sub (x_le_s rfl (x_le_s rfl (x_le_s rfl (x_le_s rfl (x_le_n x_le_e))))) (ih _ _)
      · refine x_if_eq 38 dX3_build_25 (by decide) (fun _ => ?_) (fun _ => ?_)
        · refine x_iload dX3_build_38 rfl ?_
          refine x_callS1i dX3_build_40 lc_RX3_50 (c_J6_bitCount_0f7a4 _ _) rfl rfl (fun r17 s18 => ?_)
          refine x_iconst (v := 1) dX3_build_43 rfl ?_
          refine x_icmp_le 64 dX3_build_44 (by decide) (fun _ => ?_) (fun _ => ?_)
          · exact x_sub (x_le_s rfl (x_le_s rfl (x_le_s rfl (x_le_s rfl (x_le_n x_le_e))))) (hj16 () _)
          · refine x_aload_n dX3_build_47 rfl rfl ?_
            refine x_iload_n dX3_build_48 rfl rfl ?_
            refine x_iload dX3_build_49 rfl ?_
            refine x_callN1i dX3_build_51 lc_RX3_55 ln_RX3_55 (c_X6_lowest _ _) rfl rfl (fun r19 s20 => ?_)
            refine x_iload dX3_build_54 rfl ?_
            refine x_callN1i dX3_build_56 lc_RX3_58 ln_RX3_58 (c_X6_highest _ _) rfl rfl (fun r21 s22 => ?_)
            refine x_iload dX3_build_59 rfl ?_
            refine x_callV4v dX3_build_61 lc_RX3_61 (c_X3_add_14 _ _ _ _ _) rfl rfl rfl rfl rfl (fun r23 s24 => ?_)
            exact x_sub (x_le_s rfl (x_le_s rfl (x_le_s rfl (x_le_s rfl (x_le_n x_le_e))))) (hj16 () _)
        · refine x_aload_n dX3_build_28 rfl rfl ?_
          refine x_iload_n dX3_build_29 rfl rfl ?_
          refine x_iload dX3_build_30 rfl ?_
          refine x_callV2v dX3_build_32 lc_RX3_46 (c_X3_addPieces_14 _ _ _) rfl rfl rfl rfl rfl (fun r25 s26 => ?_)
          refine x_goto 64 dX3_build_35 (by decide) ?_
          exact x_sub (x_le_s rfl (x_le_s rfl (x_le_s rfl (x_le_s rfl (x_le_n x_le_e))))) (hj16 () _)

theorem t_X3_build_14_72 (k : xSt → Option (Unit × xSt)) (hk : ∀ (σ : xSt), XP κv true m_X3_build 2 shC 103 [some (.ref 14), none, none, none, none] [] σ (k  σ)) : ∀ (n : Nat) (w3 : Int32) (σ : xSt), XP κv true m_X3_build 2 shC 72 [some (.ref 14), some (.ref 3), none, some (.int w3), none] [] σ (f_X3_build_72 14 k n w3 σ) := by
  intro n
  induction n with
  | zero => intro w3 σ; exact x_none
  | succ n ih =>
    intro w3 σ
    rw [f_X3_build_72]
    refine x_iload_n dX3_build_72 rfl rfl ?_
    refine x_aload_n dX3_build_73 rfl rfl ?_
    refine x_getI dX3_build_74 lk_RX3_65 rfl rfl ?_
    refine x_icmp_ge 103 dX3_build_77 (by decide) (fun _ => ?_) (fun _ => ?_)
    · exact x_sub (x_le_s rfl (x_le_n (x_le_n (x_le_n (x_le_n x_le_e))))) (hk  _)
    · refine x_aload_n dX3_build_80 rfl rfl ?_
      refine x_iload_n dX3_build_81 rfl rfl ?_
      refine x_aload_n dX3_build_82 rfl rfl ?_
      refine x_iload_n dX3_build_83 rfl rfl ?_
      refine x_iconst (v := 0) dX3_build_84 rfl ?_
      refine x_callV2i dX3_build_85 lc_RX3_68 (c_X0_netOf _ _ _) rfl rfl rfl rfl rfl (fun r28 s29 => ?_)
      refine x_aload_n dX3_build_88 rfl rfl ?_
      refine x_iload_n dX3_build_89 rfl rfl ?_
      refine x_iconst (v := 1) dX3_build_90 rfl ?_
      refine x_callV2i dX3_build_91 lc_RX3_68 (c_X0_netOf _ _ _) rfl rfl rfl rfl rfl (fun r30 s31 => ?_)
      refine x_callV3v dX3_build_94 lc_RX3_72 (c_X3_constrain_14 _ _ _ _) rfl rfl rfl rfl rfl (fun r32 s33 => ?_)
      refine x_iinc dX3_build_97 rfl rfl rfl rfl ?_
      refine x_goto 72 dX3_build_100 (by decide) ?_
      exact x_sub (x_le_s rfl (x_le_s rfl (x_le_n (x_le_s rfl (x_le_n x_le_e))))) (ih _ _)

theorem c_X3_build_14 (a2 : Int32) (σ : xSt) : CON κv yX3_build m_X3_build true 2 shC [.ref 14, .ref 3, .int a2] σ (f_X3_build 14 a2 σ) := by
  refine x_con (L := [some (.ref 14), some (.ref 3), some (.int a2), none, none]) (by decide) rfl rfl rfl ?_
  unfold f_X3_build
  refine x_aload_n dX3_build_0 rfl rfl ?_
  refine x_iconst (v := 0) dX3_build_1 rfl ?_
  refine x_putIB dX3_build_2 lp_RX3_36 rfl rfl (fun s1 => ?_)
  refine x_iconst (v := 0) dX3_build_5 rfl ?_
  refine x_istore_n dX3_build_6 rfl rfl rfl ?_
  refine x_sub (x_le_s rfl (x_le_s rfl (x_le_s rfl (x_le_s rfl (x_le_n x_le_e))))) (t_X3_build_14_7 _ _ (fun  s27 => ?_) FU _ _)
  refine x_iconst (v := 0) dX3_build_70 rfl ?_
  refine x_istore_n dX3_build_71 rfl rfl rfl ?_
  refine x_sub (x_le_s rfl (x_le_s rfl (x_le_n (x_le_s rfl (x_le_n x_le_e))))) (t_X3_build_14_72 _ (fun  s34 => ?_) FU _ _)
  refine x_aload_n dX3_build_103 rfl rfl ?_
  refine x_aload_n dX3_build_104 rfl rfl ?_
  refine x_aload_n dX3_build_105 rfl rfl ?_
  refine x_getR dX3_build_106 lk_RX3_24 rfl rfl ?_
  refine x_aload_n dX3_build_109 rfl rfl ?_
  refine x_getR dX3_build_110 lk_RX3_27 rfl rfl ?_
  refine x_callV2i dX3_build_113 lc_RX3_76 (c_X3_rank_14_19_20 _) rfl rfl rfl rfl rfl (fun r35 s36 => ?_)
  refine x_putIB dX3_build_116 lp_RX3_80 rfl rfl (fun s37 => ?_)
  refine x_aload_n dX3_build_119 rfl rfl ?_
  refine x_aload_n dX3_build_120 rfl rfl ?_
  refine x_getR dX3_build_121 lk_RX3_21 rfl rfl ?_
  refine x_aload_n dX3_build_124 rfl rfl ?_
  refine x_getR dX3_build_125 lk_RX3_30 rfl rfl ?_
  refine x_callV2i dX3_build_128 lc_RX3_76 (c_X3_rank_14_18_21 _) rfl rfl rfl rfl rfl (fun r38 s39 => ?_)
  refine x_pop dX3_build_131 rfl ?_
  exact x_vret dX3_build_132 rfl

theorem t_X3_numberOf_5_4 (w1 : Int32) (k : Int32 → xSt → Option (Int32 × xSt)) (hk : ∀ (w2 : Int32) (σ : xSt), XP κi true m_X3_numberOf 0 shC 31 [none, none, some (.int w2), none] [] σ (k w2 σ)) : ∀ (n : Nat) (w2 : Int32) (w3 : Int32) (σ : xSt), XP κi true m_X3_numberOf 0 shC 4 [some (.ref 5), some (.int w1), some (.int w2), some (.int w3)] [] σ (f_X3_numberOf_4 5 w1 k n w2 w3 σ) := by
  intro n
  induction n with
  | zero => intro w2 w3 σ; exact x_none
  | succ n ih =>
    intro w2 w3 σ
    rw [f_X3_numberOf_4]
    refine x_iload_n dX3_numberOf_4 rfl rfl ?_
    refine x_aload_n dX3_numberOf_5 rfl rfl ?_
    refine x_getI dX3_numberOf_6 lk_RX3_36 rfl rfl ?_
    refine x_icmp_ge 31 dX3_numberOf_9 (by decide) (fun _ => ?_) (fun _ => ?_)
    · exact x_sub (x_le_n (x_le_n (x_le_s rfl (x_le_n x_le_e)))) (hk _ _)
    · refine x_aload_n dX3_numberOf_12 rfl rfl ?_
      refine x_getR dX3_numberOf_13 lk_RX3_9 rfl rfl ?_
      refine x_iload_n dX3_numberOf_16 rfl rfl ?_
      refine x_iald dX3_numberOf_17 rfl ?_
      refine x_iload_n dX3_numberOf_18 rfl rfl ?_
      refine x_jn 25 (fun (v1 : Int32) => [some (.ref 5), some (.int w1), some (.int v1), some (.int w3)]) (fun (v1 : Int32) => []) (fun v1 s2 => ?_) (fun j3 hj3 => ?_)
      · refine x_iinc dX3_numberOf_25 rfl rfl rfl rfl ?_
        refine x_goto 4 dX3_numberOf_28 (by decide) ?_
        exact x_sub (x_le_s rfl (x_le_s rfl (x_le_s rfl (x_le_s rfl x_le_e)))) (ih _ _ _)
      · refine x_icmp_ne 25 dX3_numberOf_19 (by decide) (fun _ => ?_) (fun _ => ?_)
        · exact x_sub (x_le_s rfl (x_le_s rfl (x_le_s rfl (x_le_s rfl x_le_e)))) (hj3 w2 _)
        · refine x_iinc dX3_numberOf_22 rfl rfl rfl rfl ?_
          exact x_sub (x_le_s rfl (x_le_s rfl (x_le_s rfl (x_le_s rfl x_le_e)))) (hj3 (w2 + 1) _)

theorem c_X3_numberOf_5 (a1 : Int32) (σ : xSt) : CON κi yX3_numberOf m_X3_numberOf true 0 shC [.ref 5, .int a1] σ (f_X3_numberOf 5 a1 σ) := by
  refine x_con (L := [some (.ref 5), some (.int a1), none, none]) (by decide) rfl rfl rfl ?_
  unfold f_X3_numberOf
  refine x_iconst (v := 0) dX3_numberOf_0 rfl ?_
  refine x_istore_n dX3_numberOf_1 rfl rfl rfl ?_
  refine x_iconst (v := 0) dX3_numberOf_2 rfl ?_
  refine x_istore_n dX3_numberOf_3 rfl rfl rfl ?_
  refine x_sub (x_le_s rfl (x_le_s rfl (x_le_s rfl (x_le_s rfl x_le_e)))) (t_X3_numberOf_5_4 _ _ (fun e4 s5 => ?_) FU _ _ _)
  refine x_iload_n dX3_numberOf_31 rfl rfl ?_
  exact x_iret dX3_numberOf_32 rfl

theorem c_X4_append (a1 : Int32) (σ : xSt) : CON κv yX4_append m_X4_append true 0 shC [.ref 1, .int a1] σ (f_X4_append a1 σ) := by
  refine x_con (L := [some (.ref 1), some (.int a1)]) (by decide) rfl rfl rfl ?_
  unfold f_X4_append
  refine x_aload_n dX4_append_0 rfl rfl ?_
  refine x_getI dX4_append_1 lk_RX4_15 rfl rfl ?_
  refine x_bipush (v := 20) dX4_append_4 rfl ?_
  refine x_jn 29 (fun (v3 : Unit) => [none, none]) (fun (v3 : Unit) => []) (fun v3 s4 => ?_) (fun j5 hj5 => ?_)
  · exact x_vret dX4_append_29 rfl
  · refine x_icmp_ge 29 dX4_append_6 (by decide) (fun _ => ?_) (fun _ => ?_)
    · exact x_sub (x_le_n (x_le_n x_le_e)) (hj5 () _)
    · refine x_aload_n dX4_append_9 rfl rfl ?_
      refine x_getR dX4_append_10 lk_RX4_9 rfl rfl ?_
      refine x_aload_n dX4_append_13 rfl rfl ?_
      refine x_getI dX4_append_14 lk_RX4_15 rfl rfl ?_
      refine x_iload_n dX4_append_17 rfl rfl ?_
      refine x_iastB dX4_append_18 rfl (fun s6 => ?_)
      refine x_aload_n dX4_append_19 rfl rfl ?_
      refine x_dup dX4_append_20 rfl ?_
      refine x_getI dX4_append_21 lk_RX4_15 rfl rfl ?_
      refine x_iconst (v := 1) dX4_append_24 rfl ?_
      refine x_iadd dX4_append_25 ?_
      refine x_putIB dX4_append_26 lp_RX4_15 rfl rfl (fun s7 => ?_)
      exact x_sub (x_le_n (x_le_n x_le_e)) (hj5 () _)

theorem c_X4_lastCode (σ : xSt) : CON κi yX4_lastCode m_X4_lastCode true 0 shC [.ref 1] σ (f_X4_lastCode σ) := by
  refine x_con (L := [some (.ref 1)]) (by decide) rfl rfl rfl ?_
  unfold f_X4_lastCode
  refine x_aload_n dX4_lastCode_0 rfl rfl ?_
  refine x_getI dX4_lastCode_1 lk_RX4_15 rfl rfl ?_
  refine x_jn 22 (fun (v1 : Int32) => [none]) (fun (v1 : Int32) => [.int v1]) (fun v1 s2 => ?_) (fun j3 hj3 => ?_)
  · exact x_iret dX4_lastCode_22 rfl
  · refine x_if_le 21 dX4_lastCode_4 (by decide) (fun _ => ?_) (fun _ => ?_)
    · refine x_iconst (v := -1) dX4_lastCode_21 rfl ?_
      exact x_sub (x_le_n x_le_e) (hj3 (-1) _)
    · refine x_aload_n dX4_lastCode_7 rfl rfl ?_
      refine x_getR dX4_lastCode_8 lk_RX4_9 rfl rfl ?_
      refine x_aload_n dX4_lastCode_11 rfl rfl ?_
      refine x_getI dX4_lastCode_12 lk_RX4_15 rfl rfl ?_
      refine x_iconst (v := 1) dX4_lastCode_15 rfl ?_
      refine x_isub dX4_lastCode_16 ?_
      refine x_iald dX4_lastCode_17 rfl ?_
      refine x_goto 22 dX4_lastCode_18 (by decide) ?_
      exact x_sub (x_le_n x_le_e) (hj3 (σ.1 2 ((σ.1 1 1) - 1).toNatClampNeg) _)

theorem c_X4_netAt (a1 : Int32) (σ : xSt) : CON κi yX4_netAt m_X4_netAt true 0 shC [.ref 1, .int a1] σ (f_X4_netAt a1 σ) := by
  refine x_con (L := [some (.ref 1), some (.int a1)]) (by decide) rfl rfl rfl ?_
  unfold f_X4_netAt
  refine x_iload_n dX4_netAt_0 rfl rfl ?_
  refine x_jn 23 (fun (v1 : Unit) => [none, none]) (fun (v1 : Unit) => []) (fun v1 s2 => ?_) (fun j3 hj3 => ?_)
  · refine x_iconst (v := -1) dX4_netAt_23 rfl ?_
    exact x_iret dX4_netAt_24 rfl
  · refine x_if_lt 23 dX4_netAt_1 (by decide) (fun _ => ?_) (fun _ => ?_)
    · exact x_sub (x_le_n (x_le_n x_le_e)) (hj3 () _)
    · refine x_iload_n dX4_netAt_4 rfl rfl ?_
      refine x_aload_n dX4_netAt_5 rfl rfl ?_
      refine x_getI dX4_netAt_6 lk_RX4_15 rfl rfl ?_
      refine x_icmp_ge 23 dX4_netAt_9 (by decide) (fun _ => ?_) (fun _ => ?_)
      · exact x_sub (x_le_n (x_le_n x_le_e)) (hj3 () _)
      · refine x_aload_n dX4_netAt_12 rfl rfl ?_
        refine x_getR dX4_netAt_13 lk_RX4_9 rfl rfl ?_
        refine x_iload_n dX4_netAt_16 rfl rfl ?_
        refine x_iald dX4_netAt_17 rfl ?_
        refine x_bipush (v := 46) dX4_netAt_18 rfl ?_
        refine x_icmp_ne 25 dX4_netAt_20 (by decide) (fun _ => ?_) (fun _ => ?_)
        · refine x_aload_n dX4_netAt_25 rfl rfl ?_
          refine x_getR dX4_netAt_26 lk_RX4_9 rfl rfl ?_
          refine x_iload_n dX4_netAt_29 rfl rfl ?_
          refine x_iald dX4_netAt_30 rfl ?_
          refine x_bipush (v := 97) dX4_netAt_31 rfl ?_
          refine x_isub dX4_netAt_33 ?_
          exact x_iret dX4_netAt_34 rfl
        · exact x_sub (x_le_n (x_le_n x_le_e)) (hj3 () _)

theorem c_X4_isNetSign (a0 : Int32) (σ : xSt) : CON κi yX4_isNetSign m_X4_isNetSign true 0 shC [.int a0] σ (f_X4_isNetSign a0 σ) := by
  refine x_con (L := [some (.int a0)]) (by decide) rfl rfl rfl ?_
  unfold f_X4_isNetSign
  refine x_iload_n dX4_isNetSign_0 rfl rfl ?_
  refine x_bipush (v := 97) dX4_isNetSign_1 rfl ?_
  refine x_jn 17 (fun (v4 : Int32) => [none]) (fun (v4 : Int32) => [.int v4]) (fun v4 s5 => ?_) (fun j6 hj6 => ?_)
  · exact x_zret dX4_isNetSign_17 rfl
  · refine x_jn 16 (fun (v7 : Unit) => [none]) (fun (v7 : Unit) => []) (fun v7 s8 => ?_) (fun j9 hj9 => ?_)
    · refine x_iconst (v := 0) dX4_isNetSign_16 rfl ?_
      exact x_sub (x_le_n x_le_e) (hj6 0 _)
    · refine x_icmp_lt 16 dX4_isNetSign_3 (by decide) (fun _ => ?_) (fun _ => ?_)
      · exact x_sub (x_le_n x_le_e) (hj9 () _)
      · refine x_iload_n dX4_isNetSign_6 rfl rfl ?_
        refine x_bipush (v := 103) dX4_isNetSign_7 rfl ?_
        refine x_icmp_ge 16 dX4_isNetSign_9 (by decide) (fun _ => ?_) (fun _ => ?_)
        · exact x_sub (x_le_n x_le_e) (hj9 () _)
        · refine x_iconst (v := 1) dX4_isNetSign_12 rfl ?_
          refine x_goto 17 dX4_isNetSign_13 (by decide) ?_
          exact x_sub (x_le_n x_le_e) (hj6 1 _)

theorem c_X4_isPinSign (a0 : Int32) (σ : xSt) : CON κi yX4_isPinSign m_X4_isPinSign true 1 shC [.int a0] σ (f_X4_isPinSign a0 σ) := by
  refine x_con (L := [some (.int a0)]) (by decide) rfl rfl rfl ?_
  unfold f_X4_isPinSign
  refine x_iload_n dX4_isPinSign_0 rfl rfl ?_
  refine x_bipush (v := 46) dX4_isPinSign_1 rfl ?_
  refine x_jn 18 (fun (v8 : Int32) => [none]) (fun (v8 : Int32) => [.int v8]) (fun v8 s9 => ?_) (fun j10 hj10 => ?_)
  · exact x_zret dX4_isPinSign_18 rfl
  · refine x_jn 13 (fun (v13 : Unit) => [none]) (fun (v13 : Unit) => []) (fun v13 s14 => ?_) (fun j15 hj15 => ?_)
    · refine x_iconst (v := 1) dX4_isPinSign_13 rfl ?_
      refine x_goto 18 dX4_isPinSign_14 (by decide) ?_
      exact x_sub (x_le_n x_le_e) (hj10 1 _)
    · refine x_icmp_eq 13 dX4_isPinSign_3 (by decide) (fun _ => ?_) (fun _ => ?_)
      · exact x_sub (x_le_n x_le_e) (hj15 () _)
      · refine x_iload_n dX4_isPinSign_6 rfl rfl ?_
        refine x_callS1i dX4_isPinSign_7 lc_RX4_27 (c_X4_isNetSign _ _) rfl rfl (fun r16 s17 => ?_)
        refine x_if_eq 17 dX4_isPinSign_10 (by decide) (fun _ => ?_) (fun _ => ?_)
        · refine x_iconst (v := 0) dX4_isPinSign_17 rfl ?_
          exact x_sub (x_le_n x_le_e) (hj10 0 _)
        · exact x_sub (x_le_n x_le_e) (hj15 () _)

theorem c_X4_fitsChannel (a1 : Int32) (a2 : Int32) (σ : xSt) : CON κi yX4_fitsChannel m_X4_fitsChannel true 2 shC [.ref 1, .int a1, .int a2] σ (f_X4_fitsChannel a1 a2 σ) := by
  refine x_con (L := [some (.ref 1), some (.int a1), some (.int a2), none]) (by decide) rfl rfl rfl ?_
  unfold f_X4_fitsChannel
  refine x_aload_n dX4_fitsChannel_0 rfl rfl ?_
  refine x_getR dX4_fitsChannel_1 lk_RX4_9 rfl rfl ?_
  refine x_iload_n dX4_fitsChannel_4 rfl rfl ?_
  refine x_iald dX4_fitsChannel_5 rfl ?_
  refine x_istore_nB dX4_fitsChannel_6 rfl rfl rfl (fun x1 => ?_)
  refine x_iload_n dX4_fitsChannel_7 rfl rfl ?_
  refine x_iconst (v := -1) dX4_fitsChannel_8 rfl ?_
  refine x_icmp_eq 32 dX4_fitsChannel_9 (by decide) (fun _ => ?_) (fun _ => ?_)
  · refine x_iload_n dX4_fitsChannel_32 rfl rfl ?_
    refine x_bipush (v := 47) dX4_fitsChannel_33 rfl ?_
    refine x_icmp_ne 49 dX4_fitsChannel_35 (by decide) (fun _ => ?_) (fun _ => ?_)
    · refine x_iload_n dX4_fitsChannel_49 rfl rfl ?_
      refine x_bipush (v := 8) dX4_fitsChannel_50 rfl ?_
      refine x_jn 67 (fun (v9 : Int32) => [none, none, none, none]) (fun (v9 : Int32) => [.int v9]) (fun v9 s10 => ?_) (fun j11 hj11 => ?_)
      · exact x_zret dX4_fitsChannel_67 rfl
      · refine x_jn 66 (fun (v14 : Unit) => [none, none, none, none]) (fun (v14 : Unit) => []) (fun v14 s15 => ?_) (fun j16 hj16 => ?_)
        · refine x_iconst (v := 0) dX4_fitsChannel_66 rfl ?_
          exact x_sub (x_le_n (x_le_n (x_le_n (x_le_n x_le_e)))) (hj11 0 _)
        · refine x_icmp_ge 66 dX4_fitsChannel_52 (by decide) (fun _ => ?_) (fun _ => ?_)
          · exact x_sub (x_le_n (x_le_n (x_le_n (x_le_n x_le_e)))) (hj16 () _)
          · refine x_iload_n dX4_fitsChannel_55 rfl rfl ?_
            refine x_callS1i dX4_fitsChannel_56 lc_RX4_23 (c_X4_isPinSign _ _) rfl rfl (fun r17 s18 => ?_)
            refine x_if_eq 66 dX4_fitsChannel_59 (by decide) (fun _ => ?_) (fun _ => ?_)
            · exact x_sub (x_le_n (x_le_n (x_le_n (x_le_n x_le_e)))) (hj16 () _)
            · refine x_iconst (v := 1) dX4_fitsChannel_62 rfl ?_
              refine x_goto 67 dX4_fitsChannel_63 (by decide) ?_
              exact x_sub (x_le_n (x_le_n (x_le_n (x_le_n x_le_e)))) (hj11 1 _)
    · refine x_iload_n dX4_fitsChannel_38 rfl rfl ?_
      refine x_iconst (v := 2) dX4_fitsChannel_39 rfl ?_
      refine x_jn 48 (fun (v19 : Int32) => [none, none, none, none]) (fun (v19 : Int32) => [.int v19]) (fun v19 s20 => ?_) (fun j21 hj21 => ?_)
      · exact x_zret dX4_fitsChannel_48 rfl
      · refine x_icmp_lt 47 dX4_fitsChannel_40 (by decide) (fun _ => ?_) (fun _ => ?_)
        · refine x_iconst (v := 0) dX4_fitsChannel_47 rfl ?_
          exact x_sub (x_le_n (x_le_n (x_le_n (x_le_n x_le_e)))) (hj21 0 _)
        · refine x_iconst (v := 1) dX4_fitsChannel_43 rfl ?_
          refine x_goto 48 dX4_fitsChannel_44 (by decide) ?_
          exact x_sub (x_le_n (x_le_n (x_le_n (x_le_n x_le_e)))) (hj21 1 _)
  · refine x_iload_n dX4_fitsChannel_12 rfl rfl ?_
    refine x_iconst (v := 2) dX4_fitsChannel_13 rfl ?_
    refine x_iload_n dX4_fitsChannel_14 rfl rfl ?_
    refine x_imul dX4_fitsChannel_15 ?_
    refine x_jn 31 (fun (v29 : Int32) => [none, none, none, none]) (fun (v29 : Int32) => [.int v29]) (fun v29 s30 => ?_) (fun j31 hj31 => ?_)
    · exact x_zret dX4_fitsChannel_31 rfl
    · refine x_jn 30 (fun (v34 : Unit) => [none, none, none, none]) (fun (v34 : Unit) => []) (fun v34 s35 => ?_) (fun j36 hj36 => ?_)
      · refine x_iconst (v := 0) dX4_fitsChannel_30 rfl ?_
        exact x_sub (x_le_n (x_le_n (x_le_n (x_le_n x_le_e)))) (hj31 0 _)
      · refine x_icmp_gt 30 dX4_fitsChannel_16 (by decide) (fun _ => ?_) (fun _ => ?_)
        · exact x_sub (x_le_n (x_le_n (x_le_n (x_le_n x_le_e)))) (hj36 () _)
        · refine x_iload_n dX4_fitsChannel_19 rfl rfl ?_
          refine x_callS1i dX4_fitsChannel_20 lc_RX4_23 (c_X4_isPinSign _ _) rfl rfl (fun r37 s38 => ?_)
          refine x_if_eq 30 dX4_fitsChannel_23 (by decide) (fun _ => ?_) (fun _ => ?_)
          · exact x_sub (x_le_n (x_le_n (x_le_n (x_le_n x_le_e)))) (hj36 () _)
          · refine x_iconst (v := 1) dX4_fitsChannel_26 rfl ?_
            refine x_goto 31 dX4_fitsChannel_27 (by decide) ?_
            exact x_sub (x_le_n (x_le_n (x_le_n (x_le_n x_le_e)))) (hj31 1 _)

theorem t_X4_channelFault_4 (k : xSt → Option (Int32 × xSt)) (hk : ∀ (σ : xSt), XP κi true m_X4_channelFault 3 shC 42 [some (.ref 1), none, none] [] σ (k  σ)) : ∀ (n : Nat) (w1 : Int32) (w2 : Int32) (σ : xSt), XP κi true m_X4_channelFault 3 shC 4 [some (.ref 1), some (.int w1), some (.int w2)] [] σ (f_X4_channelFault_4 k n w1 w2 σ) := by
  intro n
  induction n with
  | zero => intro w1 w2 σ; exact x_none
  | succ n ih =>
    intro w1 w2 σ
    rw [f_X4_channelFault_4]
    refine x_iload_n dX4_channelFault_4 rfl rfl ?_
    refine x_aload_n dX4_channelFault_5 rfl rfl ?_
    refine x_getI dX4_channelFault_6 lk_RX4_15 rfl rfl ?_
    refine x_icmp_ge 42 dX4_channelFault_9 (by decide) (fun _ => ?_) (fun _ => ?_)
    · exact x_sub (x_le_s rfl (x_le_n (x_le_n x_le_e))) (hk  _)
    · refine x_aload_n dX4_channelFault_12 rfl rfl ?_
      refine x_iload_n dX4_channelFault_13 rfl rfl ?_
      refine x_iload_n dX4_channelFault_14 rfl rfl ?_
      refine x_callV2i dX4_channelFault_15 lc_RX4_19 (c_X4_fitsChannel _ _ _) rfl rfl rfl rfl rfl (fun r1 s2 => ?_)
      refine x_if_ne 23 dX4_channelFault_18 (by decide) (fun _ => ?_) (fun _ => ?_)
      · refine x_aload_n dX4_channelFault_23 rfl rfl ?_
        refine x_getR dX4_channelFault_24 lk_RX4_9 rfl rfl ?_
        refine x_iload_n dX4_channelFault_27 rfl rfl ?_
        refine x_iald dX4_channelFault_28 rfl ?_
        refine x_bipush (v := 47) dX4_channelFault_29 rfl ?_
        refine x_jn 36 (fun (v3 : Int32) => [some (.ref 1), some (.int v3), some (.int w2)]) (fun (v3 : Int32) => []) (fun v3 s4 => ?_) (fun j5 hj5 => ?_)
        · refine x_iinc dX4_channelFault_36 rfl rfl rfl rfl ?_
          refine x_goto 4 dX4_channelFault_39 (by decide) ?_
          exact x_sub (x_le_s rfl (x_le_s rfl (x_le_s rfl x_le_e))) (ih _ _ _)
        · refine x_icmp_ne 36 dX4_channelFault_31 (by decide) (fun _ => ?_) (fun _ => ?_)
          · exact x_sub (x_le_s rfl (x_le_s rfl (x_le_s rfl x_le_e))) (hj5 w1 _)
          · refine x_iload_n dX4_channelFault_34 rfl rfl ?_
            refine x_istore_n dX4_channelFault_35 rfl rfl rfl ?_
            exact x_sub (x_le_s rfl (x_le_s rfl (x_le_s rfl x_le_e))) (hj5 w2 _)
      · refine x_iload_n dX4_channelFault_21 rfl rfl ?_
        exact x_iret dX4_channelFault_22 rfl

theorem c_X4_channelFault (σ : xSt) : CON κi yX4_channelFault m_X4_channelFault true 3 shC [.ref 1] σ (f_X4_channelFault σ) := by
  refine x_con (L := [some (.ref 1), none, none]) (by decide) rfl rfl rfl ?_
  unfold f_X4_channelFault
  refine x_iconst (v := -1) dX4_channelFault_0 rfl ?_
  refine x_istore_n dX4_channelFault_1 rfl rfl rfl ?_
  refine x_iconst (v := 0) dX4_channelFault_2 rfl ?_
  refine x_istore_n dX4_channelFault_3 rfl rfl rfl ?_
  refine x_sub (x_le_s rfl (x_le_s rfl (x_le_s rfl x_le_e))) (t_X4_channelFault_4 _ (fun  s6 => ?_) FU _ _ _)
  refine x_aload_n dX4_channelFault_42 rfl rfl ?_
  refine x_getI dX4_channelFault_43 lk_RX4_15 rfl rfl ?_
  exact x_iret dX4_channelFault_46 rfl

theorem c_X4_columnsOfChannel (σ : xSt) : CON κi yX4_columnsOfChannel m_X4_columnsOfChannel true 4 shC [.ref 1] σ (f_X4_columnsOfChannel σ) := by
  refine x_con (L := [some (.ref 1), none]) (by decide) rfl rfl rfl ?_
  unfold f_X4_columnsOfChannel
  refine x_aload_n dX4_columnsOfChannel_0 rfl rfl ?_
  refine x_getI dX4_columnsOfChannel_1 lk_RX4_15 rfl rfl ?_
  refine x_iconst (v := 2) dX4_columnsOfChannel_4 rfl ?_
  refine x_idiv dX4_columnsOfChannel_5 ?_
  refine x_istore_nB dX4_columnsOfChannel_6 rfl rfl rfl (fun x1 => ?_)
  refine x_aload_n dX4_columnsOfChannel_7 rfl rfl ?_
  refine x_getI dX4_columnsOfChannel_8 lk_RX4_15 rfl rfl ?_
  refine x_iconst (v := 2) dX4_columnsOfChannel_11 rfl ?_
  refine x_iload_n dX4_columnsOfChannel_12 rfl rfl ?_
  refine x_imul dX4_columnsOfChannel_13 ?_
  refine x_iconst (v := 1) dX4_columnsOfChannel_14 rfl ?_
  refine x_iadd dX4_columnsOfChannel_15 ?_
  refine x_jn 30 (fun (v7 : Unit) => [none, none]) (fun (v7 : Unit) => []) (fun v7 s8 => ?_) (fun j9 hj9 => ?_)
  · refine x_iconst (v := -1) dX4_columnsOfChannel_30 rfl ?_
    exact x_iret dX4_columnsOfChannel_31 rfl
  · refine x_icmp_ne 30 dX4_columnsOfChannel_16 (by decide) (fun _ => ?_) (fun _ => ?_)
    · exact x_sub (x_le_n (x_le_n x_le_e)) (hj9 () _)
    · refine x_aload_n dX4_columnsOfChannel_19 rfl rfl ?_
      refine x_getR dX4_columnsOfChannel_20 lk_RX4_9 rfl rfl ?_
      refine x_iload_n dX4_columnsOfChannel_23 rfl rfl ?_
      refine x_iald dX4_columnsOfChannel_24 rfl ?_
      refine x_bipush (v := 47) dX4_columnsOfChannel_25 rfl ?_
      refine x_icmp_eq 32 dX4_columnsOfChannel_27 (by decide) (fun _ => ?_) (fun _ => ?_)
      · refine x_aload_n dX4_columnsOfChannel_32 rfl rfl ?_
        refine x_callV0i dX4_columnsOfChannel_33 lc_RX4_30 (c_X4_channelFault _) rfl rfl rfl rfl rfl (fun r10 s11 => ?_)
        refine x_aload_n dX4_columnsOfChannel_36 rfl rfl ?_
        refine x_getI dX4_columnsOfChannel_37 lk_RX4_15 rfl rfl ?_
        refine x_jn 48 (fun (v12 : Int32) => [none, none]) (fun (v12 : Int32) => [.int v12]) (fun v12 s13 => ?_) (fun j14 hj14 => ?_)
        · exact x_iret dX4_columnsOfChannel_48 rfl
        · refine x_icmp_ne 47 dX4_columnsOfChannel_40 (by decide) (fun _ => ?_) (fun _ => ?_)
          · refine x_iconst (v := -1) dX4_columnsOfChannel_47 rfl ?_
            exact x_sub (x_le_n (x_le_n x_le_e)) (hj14 (-1) _)
          · refine x_iload_n dX4_columnsOfChannel_43 rfl rfl ?_
            refine x_goto 48 dX4_columnsOfChannel_44 (by decide) ?_
            exact x_sub (x_le_n (x_le_n x_le_e)) (hj14 x1 _)
      · exact x_sub (x_le_n (x_le_n x_le_e)) (hj9 () _)

theorem c_X4_pattern (a0 : Int32) (σ : xSt) : CON κa yX4_pattern m_X4_pattern true 0 shC [.int a0] σ (f_X4_pattern a0 σ) := by
  refine x_con (L := [some (.int a0)]) (by decide) rfl rfl rfl ?_
  unfold f_X4_pattern
  refine x_iload_n dX4_pattern_0 rfl rfl ?_
  refine x_ite (fun c1 => ?_) (fun c1 => ?_)
  · refine x_tabI 40 dX4_pattern_1 c1 (by decide) (by decide) rfl (by decide) ?_
    refine x_ldcS 0 dX4_pattern_40 rfl rfl (by decide) ?_
    exact x_aret dX4_pattern_42 rfl
  refine x_ite (fun c2 => ?_) (fun c2 => ?_)
  · refine x_tabI 43 dX4_pattern_1 c2 (by decide) (by decide) rfl (by decide) ?_
    refine x_ldcS 1 dX4_pattern_43 rfl rfl (by decide) ?_
    exact x_aret dX4_pattern_45 rfl
  refine x_ite (fun c3 => ?_) (fun c3 => ?_)
  · refine x_tabI 46 dX4_pattern_1 c3 (by decide) (by decide) rfl (by decide) ?_
    refine x_ldcS 2 dX4_pattern_46 rfl rfl (by decide) ?_
    exact x_aret dX4_pattern_48 rfl
  refine x_ite (fun c4 => ?_) (fun c4 => ?_)
  · refine x_tabI 49 dX4_pattern_1 c4 (by decide) (by decide) rfl (by decide) ?_
    refine x_ldcS 3 dX4_pattern_49 rfl rfl (by decide) ?_
    exact x_aret dX4_pattern_51 rfl
  refine x_ite (fun c5 => ?_) (fun c5 => ?_)
  · refine x_tabI 52 dX4_pattern_1 c5 (by decide) (by decide) rfl (by decide) ?_
    refine x_ldcS 4 dX4_pattern_52 rfl rfl (by decide) ?_
    exact x_aret dX4_pattern_54 rfl
  refine x_ite (fun c6 => ?_) (fun c6 => ?_)
  · refine x_tabI 55 dX4_pattern_1 c6 (by decide) (by decide) rfl (by decide) ?_
    refine x_ldcS 5 dX4_pattern_55 rfl rfl (by decide) ?_
    exact x_aret dX4_pattern_57 rfl
  have ec1 := x_ne 0 (by decide) c1
  have ec2 := x_ne 1 (by decide) c2
  have ec3 := x_ne 2 (by decide) c3
  have ec4 := x_ne 3 (by decide) c4
  have ec5 := x_ne 4 (by decide) c5
  have ec6 := x_ne 5 (by decide) c6
  refine x_tabO 55 dX4_pattern_1 (by omega) (by decide) ?_
  refine x_ldcS 5 dX4_pattern_55 rfl rfl (by decide) ?_
  exact x_aret dX4_pattern_57 rfl

