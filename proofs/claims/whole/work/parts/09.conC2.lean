theorem c_X4_agrees (a0 : Int32) (a1 : Int32) (σ : xSt) : CON κi yX4_agrees m_X4_agrees true 1 shC [.int a0, .int a1] σ (f_X4_agrees a0 a1 σ) := by
  refine x_con (L := [some (.int a0), some (.int a1)]) (by decide) rfl rfl rfl ?_
  unfold f_X4_agrees
  refine x_iload_n dX4_agrees_0 rfl rfl ?_
  refine x_bipush (v := 63) dX4_agrees_1 rfl ?_
  refine x_icmp_ne 11 dX4_agrees_3 (by decide) (fun _ => ?_) (fun _ => ?_)
  · refine x_iload_n dX4_agrees_11 rfl rfl ?_
    refine x_bipush (v := 35) dX4_agrees_12 rfl ?_
    refine x_icmp_ne 35 dX4_agrees_14 (by decide) (fun _ => ?_) (fun _ => ?_)
    · refine x_iload_n dX4_agrees_35 rfl rfl ?_
      refine x_iload_n dX4_agrees_36 rfl rfl ?_
      refine x_jn 45 (fun (v1 : Int32) => [none, none]) (fun (v1 : Int32) => [.int v1]) (fun v1 s2 => ?_) (fun j3 hj3 => ?_)
      · exact x_zret dX4_agrees_45 rfl
      · refine x_icmp_ne 44 dX4_agrees_37 (by decide) (fun _ => ?_) (fun _ => ?_)
        · refine x_iconst (v := 0) dX4_agrees_44 rfl ?_
          exact x_sub (x_le_n (x_le_n x_le_e)) (hj3 0 _)
        · refine x_iconst (v := 1) dX4_agrees_40 rfl ?_
          refine x_goto 45 dX4_agrees_41 (by decide) ?_
          exact x_sub (x_le_n (x_le_n x_le_e)) (hj3 1 _)
    · refine x_iload_n dX4_agrees_17 rfl rfl ?_
      refine x_bipush (v := 48) dX4_agrees_18 rfl ?_
      refine x_jn 34 (fun (v7 : Int32) => [none, none]) (fun (v7 : Int32) => [.int v7]) (fun v7 s8 => ?_) (fun j9 hj9 => ?_)
      · exact x_zret dX4_agrees_34 rfl
      · refine x_jn 33 (fun (v10 : Unit) => [none, none]) (fun (v10 : Unit) => []) (fun v10 s11 => ?_) (fun j12 hj12 => ?_)
        · refine x_iconst (v := 0) dX4_agrees_33 rfl ?_
          exact x_sub (x_le_n (x_le_n x_le_e)) (hj9 0 _)
        · refine x_icmp_lt 33 dX4_agrees_20 (by decide) (fun _ => ?_) (fun _ => ?_)
          · exact x_sub (x_le_n (x_le_n x_le_e)) (hj12 () _)
          · refine x_iload_n dX4_agrees_23 rfl rfl ?_
            refine x_bipush (v := 57) dX4_agrees_24 rfl ?_
            refine x_icmp_gt 33 dX4_agrees_26 (by decide) (fun _ => ?_) (fun _ => ?_)
            · exact x_sub (x_le_n (x_le_n x_le_e)) (hj12 () _)
            · refine x_iconst (v := 1) dX4_agrees_29 rfl ?_
              refine x_goto 34 dX4_agrees_30 (by decide) ?_
              exact x_sub (x_le_n (x_le_n x_le_e)) (hj9 1 _)
  · refine x_iload_n dX4_agrees_6 rfl rfl ?_
    refine x_callS1i dX4_agrees_7 lc_RX4_27 (c_X4_isNetSign _ _) rfl rfl (fun r13 s14 => ?_)
    exact x_zret dX4_agrees_10 rfl

theorem t_X4_agreement_14 (w1 : Nat) (w2 : Int32) (k : xSt → Option (Int32 × xSt)) (hk : ∀ (σ : xSt), XP κi true m_X4_agreement 9 shC 44 [none, none, some (.int w2), none] [] σ (k  σ)) : ∀ (n : Nat) (w3 : Int32) (σ : xSt), XP κi true m_X4_agreement 9 shC 14 [some (.ref 1), some (.ref w1), some (.int w2), some (.int w3)] [] σ (f_X4_agreement_14 w1 w2 k n w3 σ) := by
  intro n
  induction n with
  | zero => intro w3 σ; exact x_none
  | succ n ih =>
    intro w3 σ
    rw [f_X4_agreement_14]
    refine x_iload_n dX4_agreement_14 rfl rfl ?_
    refine x_iload_n dX4_agreement_15 rfl rfl ?_
    refine x_icmp_ge 44 dX4_agreement_16 (by decide) (fun _ => ?_) (fun _ => ?_)
    · exact x_sub (x_le_n (x_le_n (x_le_s rfl (x_le_n x_le_e)))) (hk  _)
    · refine x_aload_n dX4_agreement_19 rfl rfl ?_
      refine x_getR dX4_agreement_20 lk_RX4_9 rfl rfl ?_
      refine x_iload_n dX4_agreement_23 rfl rfl ?_
      refine x_iald dX4_agreement_24 rfl ?_
      refine x_aload_n dX4_agreement_25 rfl rfl ?_
      refine x_iload_n dX4_agreement_26 rfl rfl ?_
      refine x_str_charAt dX4_agreement_27 ls_RX4_67 rfl rfl (fun r4 s5 => ?_)
      refine x_callS2i dX4_agreement_30 lc_RX4_71 (c_X4_agrees _ _ _) rfl rfl (fun r6 s7 => ?_)
      refine x_if_ne 38 dX4_agreement_33 (by decide) (fun _ => ?_) (fun _ => ?_)
      · refine x_iinc dX4_agreement_38 rfl rfl rfl rfl ?_
        refine x_goto 14 dX4_agreement_41 (by decide) ?_
        exact x_sub (x_le_s rfl (x_le_s rfl (x_le_s rfl (x_le_s rfl x_le_e)))) (ih _ _)
      · refine x_iload_n dX4_agreement_36 rfl rfl ?_
        exact x_iret dX4_agreement_37 rfl

theorem c_X4_agreement (a1 : Nat) (σ : xSt) : CON κi yX4_agreement m_X4_agreement true 9 shC [.ref 1, .ref a1] σ (f_X4_agreement a1 σ) := by
  refine x_con (L := [some (.ref 1), some (.ref a1), none, none]) (by decide) rfl rfl rfl ?_
  unfold f_X4_agreement
  refine x_aload_n dX4_agreement_0 rfl rfl ?_
  refine x_getI dX4_agreement_1 lk_RX4_15 rfl rfl ?_
  refine x_aload_n dX4_agreement_4 rfl rfl ?_
  refine x_str_length dX4_agreement_5 ls_RX4_48 rfl rfl (fun r1 s2 => ?_)
  refine x_mmin dX4_agreement_8 lm_RX4_64 rfl rfl ?_
  refine x_istore_nB dX4_agreement_11 rfl rfl rfl (fun x3 => ?_)
  refine x_iconst (v := 0) dX4_agreement_12 rfl ?_
  refine x_istore_n dX4_agreement_13 rfl rfl rfl ?_
  refine x_sub (x_le_s rfl (x_le_s rfl (x_le_s rfl (x_le_s rfl x_le_e)))) (t_X4_agreement_14 _ _ _ (fun  s8 => ?_) FU _ _)
  refine x_iload_n dX4_agreement_44 rfl rfl ?_
  exact x_iret dX4_agreement_45 rfl

theorem t_X4_commandFault_4 (k : Int32 → xSt → Option (Int32 × xSt)) (hk : ∀ (w1 : Int32) (σ : xSt), XP κi true m_X4_commandFault 10 shC 29 [none, some (.int w1), none] [] σ (k w1 σ)) : ∀ (n : Nat) (w1 : Int32) (w2 : Int32) (σ : xSt), XP κi true m_X4_commandFault 10 shC 4 [some (.ref 1), some (.int w1), some (.int w2)] [] σ (f_X4_commandFault_4 k n w1 w2 σ) := by
  intro n
  induction n with
  | zero => intro w1 w2 σ; exact x_none
  | succ n ih =>
    intro w1 w2 σ
    rw [f_X4_commandFault_4]
    refine x_iload_n dX4_commandFault_4 rfl rfl ?_
    refine x_bipush (v := 6) dX4_commandFault_5 rfl ?_
    refine x_icmp_ge 29 dX4_commandFault_7 (by decide) (fun _ => ?_) (fun _ => ?_)
    · exact x_sub (x_le_n (x_le_s rfl (x_le_n x_le_e))) (hk _ _)
    · refine x_iload_n dX4_commandFault_10 rfl rfl ?_
      refine x_aload_n dX4_commandFault_11 rfl rfl ?_
      refine x_iload_n dX4_commandFault_12 rfl rfl ?_
      refine x_callS1a dX4_commandFault_13 lc_RX4_34 (c_X4_pattern _ _) rfl rfl (fun r1 s2 => ?_)
      refine x_callV1i dX4_commandFault_16 lc_RX4_38 (c_X4_agreement _ _) rfl rfl rfl rfl rfl (fun r3 s4 => ?_)
      refine x_mmax dX4_commandFault_19 lm_RX4_42 rfl rfl ?_
      refine x_istore_nB dX4_commandFault_22 rfl rfl rfl (fun x5 => ?_)
      refine x_iinc dX4_commandFault_23 rfl rfl rfl rfl ?_
      refine x_goto 4 dX4_commandFault_26 (by decide) ?_
      exact x_sub (x_le_s rfl (x_le_s rfl (x_le_s rfl x_le_e))) (ih _ _ _)

theorem c_X4_commandFault (σ : xSt) : CON κi yX4_commandFault m_X4_commandFault true 10 shC [.ref 1] σ (f_X4_commandFault σ) := by
  refine x_con (L := [some (.ref 1), none, none]) (by decide) rfl rfl rfl ?_
  unfold f_X4_commandFault
  refine x_iconst (v := 0) dX4_commandFault_0 rfl ?_
  refine x_istore_n dX4_commandFault_1 rfl rfl rfl ?_
  refine x_iconst (v := 0) dX4_commandFault_2 rfl ?_
  refine x_istore_n dX4_commandFault_3 rfl rfl rfl ?_
  refine x_sub (x_le_s rfl (x_le_s rfl (x_le_s rfl x_le_e))) (t_X4_commandFault_4 _ (fun e6 s7 => ?_) FU _ _ _)
  refine x_iload_n dX4_commandFault_29 rfl rfl ?_
  exact x_iret dX4_commandFault_30 rfl

theorem t_X4_command_2 (k : xSt → Option (Int32 × xSt)) (hk : ∀ (σ : xSt), XP κi true m_X4_command 10 shC 44 [none, none, none] [] σ (k  σ)) : ∀ (n : Nat) (w1 : Int32) (σ : xSt), XP κi true m_X4_command 10 shC 2 [some (.ref 1), some (.int w1), none] [] σ (f_X4_command_2 k n w1 σ) := by
  intro n
  induction n with
  | zero => intro w1 σ; exact x_none
  | succ n ih =>
    intro w1 σ
    rw [f_X4_command_2]
    refine x_iload_n dX4_command_2 rfl rfl ?_
    refine x_bipush (v := 6) dX4_command_3 rfl ?_
    refine x_icmp_ge 44 dX4_command_5 (by decide) (fun _ => ?_) (fun _ => ?_)
    · exact x_sub (x_le_n (x_le_n (x_le_n x_le_e))) (hk  _)
    · refine x_iload_n dX4_command_8 rfl rfl ?_
      refine x_callS1a dX4_command_9 lc_RX4_34 (c_X4_pattern _ _) rfl rfl (fun r1 s2 => ?_)
      refine x_astore_n dX4_command_12 rfl rfl rfl ?_
      refine x_aload_n dX4_command_13 rfl rfl ?_
      refine x_getI dX4_command_14 lk_RX4_15 rfl rfl ?_
      refine x_aload_n dX4_command_17 rfl rfl ?_
      refine x_str_length dX4_command_18 ls_RX4_48 rfl rfl (fun r3 s4 => ?_)
      refine x_jn 38 (fun (v7 : Unit) => [some (.ref 1), some (.int w1), none]) (fun (v7 : Unit) => []) (fun v7 s8 => ?_) (fun j9 hj9 => ?_)
      · refine x_iinc dX4_command_38 rfl rfl rfl rfl ?_
        refine x_goto 2 dX4_command_41 (by decide) ?_
        exact x_sub (x_le_s rfl (x_le_s rfl (x_le_n x_le_e))) (ih _ _)
      · refine x_icmp_ne 38 dX4_command_21 (by decide) (fun _ => ?_) (fun _ => ?_)
        · exact x_sub (x_le_s rfl (x_le_s rfl (x_le_n x_le_e))) (hj9 () _)
        · refine x_aload_n dX4_command_24 rfl rfl ?_
          refine x_aload_n dX4_command_25 rfl rfl ?_
          refine x_callV1i dX4_command_26 lc_RX4_38 (c_X4_agreement _ _) rfl rfl rfl rfl rfl (fun r10 s11 => ?_)
          refine x_aload_n dX4_command_29 rfl rfl ?_
          refine x_getI dX4_command_30 lk_RX4_15 rfl rfl ?_
          refine x_icmp_ne 38 dX4_command_33 (by decide) (fun _ => ?_) (fun _ => ?_)
          · exact x_sub (x_le_s rfl (x_le_s rfl (x_le_n x_le_e))) (hj9 () _)
          · refine x_iload_n dX4_command_36 rfl rfl ?_
            exact x_iret dX4_command_37 rfl

theorem c_X4_command (σ : xSt) : CON κi yX4_command m_X4_command true 10 shC [.ref 1] σ (f_X4_command σ) := by
  refine x_con (L := [some (.ref 1), none, none]) (by decide) rfl rfl rfl ?_
  unfold f_X4_command
  refine x_iconst (v := 0) dX4_command_0 rfl ?_
  refine x_istore_n dX4_command_1 rfl rfl rfl ?_
  refine x_sub (x_le_s rfl (x_le_s rfl (x_le_n x_le_e))) (t_X4_command_2 _ (fun  s12 => ?_) FU _ _)
  refine x_iconst (v := -1) dX4_command_44 rfl ?_
  exact x_iret dX4_command_45 rfl

theorem t_X5_crossingSet_4 (w1 : Int32) (k : Int32 → xSt → Option (Int32 × xSt)) (hk : ∀ (w2 : Int32) (σ : xSt), XP κi true m_X5_crossingSet 1 shC 38 [none, none, some (.int w2), none] [] σ (k w2 σ)) : ∀ (n : Nat) (w2 : Int32) (w3 : Int32) (σ : xSt), XP κi true m_X5_crossingSet 1 shC 4 [some (.ref 5), some (.int w1), some (.int w2), some (.int w3)] [] σ (f_X5_crossingSet_4 w1 k n w2 w3 σ) := by
  intro n
  induction n with
  | zero => intro w2 w3 σ; exact x_none
  | succ n ih =>
    intro w2 w3 σ
    rw [f_X5_crossingSet_4]
    refine x_iload_n dX5_crossingSet_4 rfl rfl ?_
    refine x_aload_n dX5_crossingSet_5 rfl rfl ?_
    refine x_getI dX5_crossingSet_6 lk_RX5_45 rfl rfl ?_
    refine x_icmp_ge 38 dX5_crossingSet_9 (by decide) (fun _ => ?_) (fun _ => ?_)
    · exact x_sub (x_le_n (x_le_n (x_le_s rfl (x_le_n x_le_e)))) (hk _ _)
    · refine x_aload_n dX5_crossingSet_12 rfl rfl ?_
      refine x_iload_n dX5_crossingSet_13 rfl rfl ?_
      refine x_iload_n dX5_crossingSet_14 rfl rfl ?_
      refine x_callV2i dX5_crossingSet_15 lc_RX5_48 (c_X3_covers_5 _ _ _) rfl rfl rfl rfl rfl (fun r1 s2 => ?_)
      refine x_jn 32 (fun (v4 : Int32) => [some (.ref 5), some (.int w1), some (.int v4), some (.int w3)]) (fun (v4 : Int32) => []) (fun v4 s5 => ?_) (fun j6 hj6 => ?_)
      · refine x_iinc dX5_crossingSet_32 rfl rfl rfl rfl ?_
        refine x_goto 4 dX5_crossingSet_35 (by decide) ?_
        exact x_sub (x_le_s rfl (x_le_s rfl (x_le_s rfl (x_le_s rfl x_le_e)))) (ih _ _ _)
      · refine x_if_eq 32 dX5_crossingSet_18 (by decide) (fun _ => ?_) (fun _ => ?_)
        · exact x_sub (x_le_s rfl (x_le_s rfl (x_le_s rfl (x_le_s rfl x_le_e)))) (hj6 w2 _)
        · refine x_iload_n dX5_crossingSet_21 rfl rfl ?_
          refine x_iconst (v := 1) dX5_crossingSet_22 rfl ?_
          refine x_aload_n dX5_crossingSet_23 rfl rfl ?_
          refine x_getR dX5_crossingSet_24 lk_RX5_51 rfl rfl ?_
          refine x_iload_n dX5_crossingSet_27 rfl rfl ?_
          refine x_iald dX5_crossingSet_28 rfl ?_
          refine x_ishl dX5_crossingSet_29 ?_
          refine x_ior dX5_crossingSet_30 ?_
          refine x_istore_nB dX5_crossingSet_31 rfl rfl rfl (fun x7 => ?_)
          exact x_sub (x_le_s rfl (x_le_s rfl (x_le_s rfl (x_le_s rfl x_le_e)))) (hj6 x7 _)

theorem c_X5_crossingSet (a1 : Int32) (σ : xSt) : CON κi yX5_crossingSet m_X5_crossingSet true 1 shC [.ref 5, .int a1] σ (f_X5_crossingSet a1 σ) := by
  refine x_con (L := [some (.ref 5), some (.int a1), none, none]) (by decide) rfl rfl rfl ?_
  unfold f_X5_crossingSet
  refine x_iconst (v := 0) dX5_crossingSet_0 rfl ?_
  refine x_istore_n dX5_crossingSet_1 rfl rfl rfl ?_
  refine x_iconst (v := 0) dX5_crossingSet_2 rfl ?_
  refine x_istore_n dX5_crossingSet_3 rfl rfl rfl ?_
  refine x_sub (x_le_s rfl (x_le_s rfl (x_le_s rfl (x_le_s rfl x_le_e)))) (t_X5_crossingSet_4 _ _ (fun e8 s9 => ?_) FU _ _ _)
  refine x_iload_n dX5_crossingSet_38 rfl rfl ?_
  exact x_iret dX5_crossingSet_39 rfl

theorem t_X5_isNewZone_16 (w1 : Int32) (w2 : Int32) (w3 : Int32) (k : xSt → Option (Int32 × xSt)) (hk : ∀ (σ : xSt), XP κi true m_X5_isNewZone 0 shC 90 [none, none, none, none, none, none, none] [] σ (k  σ)) : ∀ (n : Nat) (w4 : Int32) (σ : xSt), XP κi true m_X5_isNewZone 0 shC 16 [some (.ref 25), some (.int w1), some (.int w2), some (.int w3), some (.int w4), none, none] [] σ (f_X5_isNewZone_16 w1 w2 w3 k n w4 σ) := by
  intro n
  induction n with
  | zero => intro w4 σ; exact x_none
  | succ n ih =>
    intro w4 σ
    rw [f_X5_isNewZone_16]
    refine x_iload dX5_isNewZone_16 rfl ?_
    refine x_iload_n dX5_isNewZone_18 rfl rfl ?_
    refine x_icmp_ge 90 dX5_isNewZone_19 (by decide) (fun _ => ?_) (fun _ => ?_)
    · exact x_sub (x_le_n (x_le_n (x_le_n (x_le_n (x_le_n (x_le_n (x_le_n x_le_e))))))) (hk  _)
    · refine x_iload_n dX5_isNewZone_22 rfl rfl ?_
      refine x_aload_n dX5_isNewZone_23 rfl rfl ?_
      refine x_getR dX5_isNewZone_24 lk_RX5_9 rfl rfl ?_
      refine x_iload dX5_isNewZone_27 rfl ?_
      refine x_iald dX5_isNewZone_29 rfl ?_
      refine x_iconst (v := -1) dX5_isNewZone_30 rfl ?_
      refine x_ixor dX5_isNewZone_31 ?_
      refine x_iand dX5_isNewZone_32 ?_
      refine x_jn 41 (fun (v2 : Int32) => [some (.ref 25), some (.int w1), some (.int w2), some (.int w3), some (.int w4), none, none]) (fun (v2 : Int32) => [.int v2]) (fun v2 s3 => ?_) (fun j4 hj4 => ?_)
      · refine x_istore dX5_isNewZone_41 rfl rfl ?_
        refine x_iload_n dX5_isNewZone_43 rfl rfl ?_
        refine x_aload_n dX5_isNewZone_44 rfl rfl ?_
        refine x_getR dX5_isNewZone_45 lk_RX5_9 rfl rfl ?_
        refine x_iload dX5_isNewZone_48 rfl ?_
        refine x_iald dX5_isNewZone_50 rfl ?_
        refine x_jn 59 (fun (v5 : Int32) => [some (.ref 25), some (.int w1), some (.int w2), some (.int w3), some (.int w4), some (.int v2), none]) (fun (v5 : Int32) => [.int v5]) (fun v5 s6 => ?_) (fun j7 hj7 => ?_)
        · refine x_istore dX5_isNewZone_59 rfl rfl ?_
          refine x_iload dX5_isNewZone_61 rfl ?_
          refine x_jn 82 (fun (v14 : Unit) => [none, none, none, none, none, none, none]) (fun (v14 : Unit) => []) (fun v14 s15 => ?_) (fun j16 hj16 => ?_)
          · refine x_iconst (v := 0) dX5_isNewZone_82 rfl ?_
            exact x_zret dX5_isNewZone_83 rfl
          · refine x_jn 71 (fun (v17 : Unit) => [some (.ref 25), some (.int w1), some (.int w2), some (.int w3), some (.int w4), none, some (.int v5)]) (fun (v17 : Unit) => []) (fun v17 s18 => ?_) (fun j19 hj19 => ?_)
            · refine x_iload dX5_isNewZone_71 rfl ?_
              refine x_jn 84 (fun (v20 : Unit) => [some (.ref 25), some (.int w1), some (.int w2), some (.int w3), some (.int w4), none, none]) (fun (v20 : Unit) => []) (fun v20 s21 => ?_) (fun j22 hj22 => ?_)
              · refine x_iinc dX5_isNewZone_84 rfl rfl rfl rfl ?_
                refine x_goto 16 dX5_isNewZone_87 (by decide) ?_
                exact x_sub (x_le_s rfl (x_le_s rfl (x_le_s rfl (x_le_s rfl (x_le_s rfl (x_le_n (x_le_n x_le_e))))))) (ih _ _)
              · refine x_if_eq 84 dX5_isNewZone_73 (by decide) (fun _ => ?_) (fun _ => ?_)
                · exact x_sub (x_le_s rfl (x_le_s rfl (x_le_s rfl (x_le_s rfl (x_le_s rfl (x_le_n (x_le_n x_le_e))))))) (hj22 () _)
                · refine x_iload dX5_isNewZone_76 rfl ?_
                  refine x_iload_n dX5_isNewZone_78 rfl rfl ?_
                  refine x_icmp_ge 84 dX5_isNewZone_79 (by decide) (fun _ => ?_) (fun _ => ?_)
                  · exact x_sub (x_le_s rfl (x_le_s rfl (x_le_s rfl (x_le_s rfl (x_le_s rfl (x_le_n (x_le_n x_le_e))))))) (hj22 () _)
                  · exact x_sub (x_le_n (x_le_n (x_le_n (x_le_n (x_le_n (x_le_n (x_le_n x_le_e))))))) (hj16 () _)
            · refine x_if_eq 71 dX5_isNewZone_63 (by decide) (fun _ => ?_) (fun _ => ?_)
              · exact x_sub (x_le_s rfl (x_le_s rfl (x_le_s rfl (x_le_s rfl (x_le_s rfl (x_le_n (x_le_s rfl x_le_e))))))) (hj19 () _)
              · refine x_iload dX5_isNewZone_66 rfl ?_
                refine x_if_eq 82 dX5_isNewZone_68 (by decide) (fun _ => ?_) (fun _ => ?_)
                · exact x_sub (x_le_n (x_le_n (x_le_n (x_le_n (x_le_n (x_le_n (x_le_n x_le_e))))))) (hj16 () _)
                · exact x_sub (x_le_s rfl (x_le_s rfl (x_le_s rfl (x_le_s rfl (x_le_s rfl (x_le_n (x_le_s rfl x_le_e))))))) (hj19 () _)
        · refine x_icmp_ne 58 dX5_isNewZone_51 (by decide) (fun _ => ?_) (fun _ => ?_)
          · refine x_iconst (v := 0) dX5_isNewZone_58 rfl ?_
            exact x_sub (x_le_s rfl (x_le_s rfl (x_le_s rfl (x_le_s rfl (x_le_s rfl (x_le_s rfl (x_le_n x_le_e))))))) (hj7 0 _)
          · refine x_iconst (v := 1) dX5_isNewZone_54 rfl ?_
            refine x_goto 59 dX5_isNewZone_55 (by decide) ?_
            exact x_sub (x_le_s rfl (x_le_s rfl (x_le_s rfl (x_le_s rfl (x_le_s rfl (x_le_s rfl (x_le_n x_le_e))))))) (hj7 1 _)
      · refine x_if_ne 40 dX5_isNewZone_33 (by decide) (fun _ => ?_) (fun _ => ?_)
        · refine x_iconst (v := 0) dX5_isNewZone_40 rfl ?_
          exact x_sub (x_le_s rfl (x_le_s rfl (x_le_s rfl (x_le_s rfl (x_le_s rfl (x_le_n (x_le_n x_le_e))))))) (hj4 0 _)
        · refine x_iconst (v := 1) dX5_isNewZone_36 rfl ?_
          refine x_goto 41 dX5_isNewZone_37 (by decide) ?_
          exact x_sub (x_le_s rfl (x_le_s rfl (x_le_s rfl (x_le_s rfl (x_le_s rfl (x_le_n (x_le_n x_le_e))))))) (hj4 1 _)

theorem c_X5_isNewZone (a1 : Int32) (a2 : Int32) (σ : xSt) : CON κi yX5_isNewZone m_X5_isNewZone true 0 shC [.ref 25, .int a1, .int a2] σ (f_X5_isNewZone a1 a2 σ) := by
  refine x_con (L := [some (.ref 25), some (.int a1), some (.int a2), none, none, none, none]) (by decide) rfl rfl rfl ?_
  unfold f_X5_isNewZone
  refine x_aload_n dX5_isNewZone_0 rfl rfl ?_
  refine x_getR dX5_isNewZone_1 lk_RX5_9 rfl rfl ?_
  refine x_iload_n dX5_isNewZone_4 rfl rfl ?_
  refine x_iald dX5_isNewZone_5 rfl ?_
  refine x_istore_nB dX5_isNewZone_6 rfl rfl rfl (fun x1 => ?_)
  refine x_iload_n dX5_isNewZone_7 rfl rfl ?_
  refine x_if_ne 13 dX5_isNewZone_8 (by decide) (fun _ => ?_) (fun _ => ?_)
  · refine x_iconst (v := 0) dX5_isNewZone_13 rfl ?_
    refine x_istore dX5_isNewZone_14 rfl rfl ?_
    refine x_sub (x_le_s rfl (x_le_s rfl (x_le_s rfl (x_le_s rfl (x_le_s rfl (x_le_n (x_le_n x_le_e))))))) (t_X5_isNewZone_16 _ _ _ _ (fun  s23 => ?_) FU _ _)
    refine x_iconst (v := 1) dX5_isNewZone_90 rfl ?_
    exact x_zret dX5_isNewZone_91 rfl
  · refine x_iconst (v := 0) dX5_isNewZone_11 rfl ?_
    exact x_zret dX5_isNewZone_12 rfl

theorem t_X5_find_7 (w2 : Int32) (k : xSt → Option (Unit × xSt)) (hk : ∀ (σ : xSt), XP κv true m_X5_find 2 shC 49 [some (.ref 25), none, some (.int w2), none] [] σ (k  σ)) : ∀ (n : Nat) (w3 : Int32) (σ : xSt), XP κv true m_X5_find 2 shC 7 [some (.ref 25), some (.ref 5), some (.int w2), some (.int w3)] [] σ (f_X5_find_7 w2 k n w3 σ) := by
  intro n
  induction n with
  | zero => intro w3 σ; exact x_none
  | succ n ih =>
    intro w3 σ
    rw [f_X5_find_7]
    refine x_iload_n dX5_find_7 rfl rfl ?_
    refine x_iload_n dX5_find_8 rfl rfl ?_
    refine x_icmp_ge 49 dX5_find_9 (by decide) (fun _ => ?_) (fun _ => ?_)
    · exact x_sub (x_le_s rfl (x_le_n (x_le_s rfl (x_le_n x_le_e)))) (hk  _)
    · refine x_aload_n dX5_find_12 rfl rfl ?_
      refine x_getR dX5_find_13 lk_RX5_9 rfl rfl ?_
      refine x_iload_n dX5_find_16 rfl rfl ?_
      refine x_aload_n dX5_find_17 rfl rfl ?_
      refine x_iload_n dX5_find_18 rfl rfl ?_
      refine x_callS2i dX5_find_19 lc_RX5_22 (c_X5_crossingSet _ _) rfl rfl (fun r2 s3 => ?_)
      refine x_iastB dX5_find_22 rfl (fun s4 => ?_)
      refine x_aload_n dX5_find_23 rfl rfl ?_
      refine x_aload_n dX5_find_24 rfl rfl ?_
      refine x_getI dX5_find_25 lk_RX5_18 rfl rfl ?_
      refine x_aload_n dX5_find_28 rfl rfl ?_
      refine x_getR dX5_find_29 lk_RX5_9 rfl rfl ?_
      refine x_iload_n dX5_find_32 rfl rfl ?_
      refine x_iald dX5_find_33 rfl ?_
      refine x_callS1i dX5_find_34 lc_RX5_26 (c_J6_bitCount_0f7a4 _ _) rfl rfl (fun r5 s6 => ?_)
      refine x_mmax dX5_find_37 lm_RX5_32 rfl rfl ?_
      refine x_putIB dX5_find_40 lp_RX5_18 rfl rfl (fun s7 => ?_)
      refine x_iinc dX5_find_43 rfl rfl rfl rfl ?_
      refine x_goto 7 dX5_find_46 (by decide) ?_
      exact x_sub (x_le_s rfl (x_le_s rfl (x_le_s rfl (x_le_s rfl x_le_e)))) (ih _ _)

theorem t_X5_find_56 (w2 : Int32) (k : xSt → Option (Unit × xSt)) (hk : ∀ (σ : xSt), XP κv true m_X5_find 2 shC 101 [none, none, none, none] [] σ (k  σ)) : ∀ (n : Nat) (w3 : Int32) (σ : xSt), XP κv true m_X5_find 2 shC 56 [some (.ref 25), none, some (.int w2), some (.int w3)] [] σ (f_X5_find_56 w2 k n w3 σ) := by
  intro n
  induction n with
  | zero => intro w3 σ; exact x_none
  | succ n ih =>
    intro w3 σ
    rw [f_X5_find_56]
    refine x_iload_n dX5_find_56 rfl rfl ?_
    refine x_iload_n dX5_find_57 rfl rfl ?_
    refine x_icmp_ge 101 dX5_find_58 (by decide) (fun _ => ?_) (fun _ => ?_)
    · exact x_sub (x_le_n (x_le_n (x_le_n (x_le_n x_le_e)))) (hk  _)
    · refine x_aload_n dX5_find_61 rfl rfl ?_
      refine x_iload_n dX5_find_62 rfl rfl ?_
      refine x_iload_n dX5_find_63 rfl rfl ?_
      refine x_callV2i dX5_find_64 lc_RX5_41 (c_X5_isNewZone _ _ _) rfl rfl rfl rfl rfl (fun r10 s11 => ?_)
      refine x_jn 95 (fun (v14 : Unit) => [some (.ref 25), none, some (.int w2), some (.int w3)]) (fun (v14 : Unit) => []) (fun v14 s15 => ?_) (fun j16 hj16 => ?_)
      · refine x_iinc dX5_find_95 rfl rfl rfl rfl ?_
        refine x_goto 56 dX5_find_98 (by decide) ?_
        exact x_sub (x_le_s rfl (x_le_n (x_le_s rfl (x_le_s rfl x_le_e)))) (ih _ _)
      · refine x_if_eq 95 dX5_find_67 (by decide) (fun _ => ?_) (fun _ => ?_)
        · exact x_sub (x_le_s rfl (x_le_n (x_le_s rfl (x_le_s rfl x_le_e)))) (hj16 () _)
        · refine x_aload_n dX5_find_70 rfl rfl ?_
          refine x_getR dX5_find_71 lk_RX5_15 rfl rfl ?_
          refine x_aload_n dX5_find_74 rfl rfl ?_
          refine x_getI dX5_find_75 lk_RX5_38 rfl rfl ?_
          refine x_aload_n dX5_find_78 rfl rfl ?_
          refine x_getR dX5_find_79 lk_RX5_9 rfl rfl ?_
          refine x_iload_n dX5_find_82 rfl rfl ?_
          refine x_iald dX5_find_83 rfl ?_
          refine x_iastB dX5_find_84 rfl (fun s17 => ?_)
          refine x_aload_n dX5_find_85 rfl rfl ?_
          refine x_dup dX5_find_86 rfl ?_
          refine x_getI dX5_find_87 lk_RX5_38 rfl rfl ?_
          refine x_iconst (v := 1) dX5_find_90 rfl ?_
          refine x_iadd dX5_find_91 ?_
          refine x_putIB dX5_find_92 lp_RX5_38 rfl rfl (fun s18 => ?_)
          exact x_sub (x_le_s rfl (x_le_n (x_le_s rfl (x_le_s rfl x_le_e)))) (hj16 () _)

theorem c_X5_find (a2 : Int32) (σ : xSt) : CON κv yX5_find m_X5_find true 2 shC [.ref 25, .ref 5, .int a2] σ (f_X5_find a2 σ) := by
  refine x_con (L := [some (.ref 25), some (.ref 5), some (.int a2), none]) (by decide) rfl rfl rfl ?_
  unfold f_X5_find
  refine x_aload_n dX5_find_0 rfl rfl ?_
  refine x_iconst (v := 0) dX5_find_1 rfl ?_
  refine x_putIB dX5_find_2 lp_RX5_18 rfl rfl (fun s1 => ?_)
  refine x_iconst (v := 0) dX5_find_5 rfl ?_
  refine x_istore_n dX5_find_6 rfl rfl rfl ?_
  refine x_sub (x_le_s rfl (x_le_s rfl (x_le_s rfl (x_le_s rfl x_le_e)))) (t_X5_find_7 _ _ (fun  s8 => ?_) FU _ _)
  refine x_aload_n dX5_find_49 rfl rfl ?_
  refine x_iconst (v := 0) dX5_find_50 rfl ?_
  refine x_putIB dX5_find_51 lp_RX5_38 rfl rfl (fun s9 => ?_)
  refine x_iconst (v := 0) dX5_find_54 rfl ?_
  refine x_istore_n dX5_find_55 rfl rfl rfl ?_
  refine x_sub (x_le_s rfl (x_le_n (x_le_s rfl (x_le_s rfl x_le_e)))) (t_X5_find_56 _ _ (fun  s19 => ?_) FU _ _)
  exact x_vret dX5_find_101 rfl

theorem c_X6_letter (a1 : Int32) (σ : xSt) : CON κi yX6_letter m_X6_letter true 1 shC [.ref 0, .int a1] σ (f_X6_letter a1 σ) := by
  refine x_con (L := [some (.ref 0), some (.int a1)]) (by decide) rfl rfl rfl ?_
  unfold f_X6_letter
  refine x_iload_n dX6_letter_0 rfl rfl ?_
  refine x_bipush (v := 32) dX6_letter_1 rfl ?_
  refine x_jn 12 (fun (v3 : Unit) => [none, none]) (fun (v3 : Unit) => []) (fun v3 s4 => ?_) (fun j5 hj5 => ?_)
  · refine x_bipush (v := -102) dX6_letter_12 rfl ?_
    exact x_iret dX6_letter_14 rfl
  · refine x_icmp_lt 12 dX6_letter_3 (by decide) (fun _ => ?_) (fun _ => ?_)
    · exact x_sub (x_le_n (x_le_n x_le_e)) (hj5 () _)
    · refine x_iload_n dX6_letter_6 rfl rfl ?_
      refine x_bipush (v := 126) dX6_letter_7 rfl ?_
      refine x_icmp_le 15 dX6_letter_9 (by decide) (fun _ => ?_) (fun _ => ?_)
      · refine x_aload_n dX6_letter_15 rfl rfl ?_
        refine x_getR dX6_letter_16 lk_RX6_10 rfl rfl ?_
        refine x_getI dX6_letter_19 lk_RX6_54 rfl rfl ?_
        refine x_bipush (v := 20) dX6_letter_22 rfl ?_
        refine x_icmp_lt 30 dX6_letter_24 (by decide) (fun _ => ?_) (fun _ => ?_)
        · refine x_aload_n dX6_letter_30 rfl rfl ?_
          refine x_getR dX6_letter_31 lk_RX6_10 rfl rfl ?_
          refine x_iload_n dX6_letter_34 rfl rfl ?_
          refine x_callV1v dX6_letter_35 lc_RX6_58 (c_X4_append _ _) rfl rfl rfl rfl rfl (fun r6 s7 => ?_)
          refine x_aload_n dX6_letter_38 rfl rfl ?_
          refine x_getR dX6_letter_39 lk_RX6_10 rfl rfl ?_
          refine x_getI dX6_letter_42 lk_RX6_54 rfl rfl ?_
          exact x_iret dX6_letter_45 rfl
        · refine x_bipush (v := -104) dX6_letter_27 rfl ?_
          exact x_iret dX6_letter_29 rfl
      · exact x_sub (x_le_n (x_le_n x_le_e)) (hj5 () _)

theorem c_X6_blank (σ : xSt) : CON κi yX6_blank m_X6_blank true 0 shC [.ref 0] σ (f_X6_blank σ) := by
  refine x_con (L := [some (.ref 0), none]) (by decide) rfl rfl rfl ?_
  unfold f_X6_blank
  refine x_aload_n dX6_blank_0 rfl rfl ?_
  refine x_getR dX6_blank_1 lk_RX6_10 rfl rfl ?_
  refine x_getI dX6_blank_4 lk_RX6_54 rfl rfl ?_
  refine x_istore_nB dX6_blank_7 rfl rfl rfl (fun x1 => ?_)
  refine x_aload_n dX6_blank_8 rfl rfl ?_
  refine x_getR dX6_blank_9 lk_RX6_10 rfl rfl ?_
  refine x_iconst (v := 0) dX6_blank_12 rfl ?_
  refine x_putIB dX6_blank_13 lp_RX6_54 rfl rfl (fun s2 => ?_)
  refine x_iload_n dX6_blank_16 rfl rfl ?_
  exact x_iret dX6_blank_17 rfl

theorem c_X6_fault (a1 : Int32) (σ : xSt) : CON κi yX6_fault m_X6_fault true 11 shC [.ref 0, .int a1] σ (f_X6_fault a1 σ) := by
  refine x_con (L := [some (.ref 0), some (.int a1)]) (by decide) rfl rfl rfl ?_
  unfold f_X6_fault
  refine x_iload_n dX6_fault_0 rfl rfl ?_
  refine x_if_ne 12 dX6_fault_1 (by decide) (fun _ => ?_) (fun _ => ?_)
  · refine x_iload_n dX6_fault_12 rfl rfl ?_
    refine x_iconst (v := 1) dX6_fault_13 rfl ?_
    refine x_icmp_ne 25 dX6_fault_14 (by decide) (fun _ => ?_) (fun _ => ?_)
    · refine x_bipush (v := -102) dX6_fault_25 rfl ?_
      exact x_iret dX6_fault_27 rfl
    · refine x_aload_n dX6_fault_17 rfl rfl ?_
      refine x_getR dX6_fault_18 lk_RX6_10 rfl rfl ?_
      refine x_callV0i dX6_fault_21 lc_RX6_66 (c_X4_commandFault _) rfl rfl rfl rfl rfl (fun r1 s2 => ?_)
      exact x_iret dX6_fault_24 rfl
  · refine x_aload_n dX6_fault_4 rfl rfl ?_
    refine x_getR dX6_fault_5 lk_RX6_10 rfl rfl ?_
    refine x_callV0i dX6_fault_8 lc_RX6_62 (c_X4_channelFault _) rfl rfl rfl rfl rfl (fun r3 s4 => ?_)
    exact x_iret dX6_fault_11 rfl

theorem c_X6_derive (σ : xSt) : CON κv yX6_derive m_X6_derive true 4 shC [.ref 0] σ (f_X6_derive σ) := by
  refine x_con (L := [some (.ref 0)]) (by decide) rfl rfl rfl ?_
  unfold f_X6_derive
  refine x_aload_n dX6_derive_0 rfl rfl ?_
  refine x_getR dX6_derive_1 lk_RX6_26 rfl rfl ?_
  refine x_aload_n dX6_derive_4 rfl rfl ?_
  refine x_getR dX6_derive_5 lk_RX6_19 rfl rfl ?_
  refine x_aload_n dX6_derive_8 rfl rfl ?_
  refine x_getI dX6_derive_9 lk_RX6_83 rfl rfl ?_
  refine x_callV2v dX6_derive_12 lc_RX6_307 (c_X3_build_5 _ _) rfl rfl rfl rfl rfl (fun r1 s2 => ?_)
  refine x_aload_n dX6_derive_15 rfl rfl ?_
  refine x_getR dX6_derive_16 lk_RX6_36 rfl rfl ?_
  refine x_aload_n dX6_derive_19 rfl rfl ?_
  refine x_getR dX6_derive_20 lk_RX6_26 rfl rfl ?_
  refine x_callV1v dX6_derive_23 lc_RX6_311 (c_X2_find _) rfl rfl rfl rfl rfl (fun r3 s4 => ?_)
  refine x_aload_n dX6_derive_26 rfl rfl ?_
  refine x_getR dX6_derive_27 lk_RX6_43 rfl rfl ?_
  refine x_aload_n dX6_derive_30 rfl rfl ?_
  refine x_getR dX6_derive_31 lk_RX6_26 rfl rfl ?_
  refine x_aload_n dX6_derive_34 rfl rfl ?_
  refine x_getR dX6_derive_35 lk_RX6_19 rfl rfl ?_
  refine x_getI dX6_derive_38 lk_RX6_72 rfl rfl ?_
  refine x_callV2v dX6_derive_41 lc_RX6_314 (c_X5_find _ _) rfl rfl rfl rfl rfl (fun r5 s6 => ?_)
  refine x_aload_n dX6_derive_44 rfl rfl ?_
  refine x_getR dX6_derive_45 lk_RX6_50 rfl rfl ?_
  refine x_callV0v dX6_derive_48 lc_RX6_234 (c_X1_takeAllAway _) rfl rfl rfl rfl rfl (fun r7 s8 => ?_)
  exact x_vret dX6_derive_51 rfl

theorem t_X6_channel_26 (w1 : Int32) (k : xSt → Option (Int32 × xSt)) (hk : ∀ (σ : xSt), XP κi true m_X6_channel 5 shC 75 [some (.ref 0), some (.int w1), none] [] σ (k  σ)) : ∀ (n : Nat) (w2 : Int32) (σ : xSt), XP κi true m_X6_channel 5 shC 26 [some (.ref 0), some (.int w1), some (.int w2)] [] σ (f_X6_channel_26 w1 k n w2 σ) := by
  intro n
  induction n with
  | zero => intro w2 σ; exact x_none
  | succ n ih =>
    intro w2 σ
    rw [f_X6_channel_26]
    refine x_iload_n dX6_channel_26 rfl rfl ?_
    refine x_iload_n dX6_channel_27 rfl rfl ?_
    refine x_icmp_ge 75 dX6_channel_28 (by decide) (fun _ => ?_) (fun _ => ?_)
    · exact x_sub (x_le_s rfl (x_le_s rfl (x_le_n x_le_e))) (hk  _)
    · refine x_aload_n dX6_channel_31 rfl rfl ?_
      refine x_getR dX6_channel_32 lk_RX6_19 rfl rfl ?_
      refine x_iload_n dX6_channel_35 rfl rfl ?_
      refine x_iconst (v := 0) dX6_channel_36 rfl ?_
      refine x_aload_n dX6_channel_37 rfl rfl ?_
      refine x_getR dX6_channel_38 lk_RX6_10 rfl rfl ?_
      refine x_iload_n dX6_channel_41 rfl rfl ?_
      refine x_callV1i dX6_channel_42 lc_RX6_75 (c_X4_netAt _ _) rfl rfl rfl rfl rfl (fun r4 s5 => ?_)
      refine x_callV3v dX6_channel_45 lc_RX6_79 (c_X0_change _ _ _ _) rfl rfl rfl rfl rfl (fun r6 s7 => ?_)
      refine x_aload_n dX6_channel_48 rfl rfl ?_
      refine x_getR dX6_channel_49 lk_RX6_19 rfl rfl ?_
      refine x_iload_n dX6_channel_52 rfl rfl ?_
      refine x_iconst (v := 1) dX6_channel_53 rfl ?_
      refine x_aload_n dX6_channel_54 rfl rfl ?_
      refine x_getR dX6_channel_55 lk_RX6_10 rfl rfl ?_
      refine x_iload_n dX6_channel_58 rfl rfl ?_
      refine x_iconst (v := 1) dX6_channel_59 rfl ?_
      refine x_iadd dX6_channel_60 ?_
      refine x_iload_n dX6_channel_61 rfl rfl ?_
      refine x_iadd dX6_channel_62 ?_
      refine x_callV1i dX6_channel_63 lc_RX6_75 (c_X4_netAt _ _) rfl rfl rfl rfl rfl (fun r8 s9 => ?_)
      refine x_callV3v dX6_channel_66 lc_RX6_79 (c_X0_change _ _ _ _) rfl rfl rfl rfl rfl (fun r10 s11 => ?_)
      refine x_iinc dX6_channel_69 rfl rfl rfl rfl ?_
      refine x_goto 26 dX6_channel_72 (by decide) ?_
      exact x_sub (x_le_s rfl (x_le_s rfl (x_le_s rfl x_le_e))) (ih _ _)

theorem c_X6_channel (σ : xSt) : CON κi yX6_channel m_X6_channel true 5 shC [.ref 0] σ (f_X6_channel σ) := by
  refine x_con (L := [some (.ref 0), none, none]) (by decide) rfl rfl rfl ?_
  unfold f_X6_channel
  refine x_aload_n dX6_channel_0 rfl rfl ?_
  refine x_getR dX6_channel_1 lk_RX6_10 rfl rfl ?_
  refine x_callV0i dX6_channel_4 lc_RX6_69 (c_X4_columnsOfChannel _) rfl rfl rfl rfl rfl (fun r1 s2 => ?_)
  refine x_istore_n dX6_channel_7 rfl rfl rfl ?_
  refine x_iload_n dX6_channel_8 rfl rfl ?_
  refine x_iconst (v := -1) dX6_channel_9 rfl ?_
  refine x_icmp_ne 16 dX6_channel_10 (by decide) (fun _ => ?_) (fun _ => ?_)
  · refine x_aload_n dX6_channel_16 rfl rfl ?_
    refine x_getR dX6_channel_17 lk_RX6_19 rfl rfl ?_
    refine x_iload_n dX6_channel_20 rfl rfl ?_
    refine x_putIB dX6_channel_21 lp_RX6_72 rfl rfl (fun s3 => ?_)
    refine x_iconst (v := 0) dX6_channel_24 rfl ?_
    refine x_istore_n dX6_channel_25 rfl rfl rfl ?_
    refine x_sub (x_le_s rfl (x_le_s rfl (x_le_s rfl x_le_e))) (t_X6_channel_26 _ _ (fun  s12 => ?_) FU _ _)
    refine x_aload_n dX6_channel_75 rfl rfl ?_
    refine x_iconst (v := 0) dX6_channel_76 rfl ?_
    refine x_putIB dX6_channel_77 lp_RX6_83 rfl rfl (fun s13 => ?_)
    refine x_aload_n dX6_channel_80 rfl rfl ?_
    refine x_callV0v dX6_channel_81 lc_RX6_86 (c_X6_derive _) rfl rfl rfl rfl rfl (fun r14 s15 => ?_)
    refine x_aload_n dX6_channel_84 rfl rfl ?_
    refine x_getR dX6_channel_85 lk_RX6_10 rfl rfl ?_
    refine x_iconst (v := 0) dX6_channel_88 rfl ?_
    refine x_putIB dX6_channel_89 lp_RX6_54 rfl rfl (fun s16 => ?_)
    refine x_aload_n dX6_channel_92 rfl rfl ?_
    refine x_dup dX6_channel_93 rfl ?_
    refine x_getI dX6_channel_94 lk_RX6_89 rfl rfl ?_
    refine x_iconst (v := 1) dX6_channel_97 rfl ?_
    refine x_iadd dX6_channel_98 ?_
    refine x_putIB dX6_channel_99 lp_RX6_89 rfl rfl (fun s17 => ?_)
    refine x_iload_n dX6_channel_102 rfl rfl ?_
    exact x_iret dX6_channel_103 rfl
  · refine x_bipush (v := -103) dX6_channel_13 rfl ?_
    exact x_iret dX6_channel_15 rfl

theorem c_X6_hasChannel (σ : xSt) : CON κi yX6_hasChannel m_X6_hasChannel true 0 shC [.ref 0] σ (f_X6_hasChannel σ) := by
  refine x_con (L := [some (.ref 0)]) (by decide) rfl rfl rfl ?_
  unfold f_X6_hasChannel
  refine x_aload_n dX6_hasChannel_0 rfl rfl ?_
  refine x_getR dX6_hasChannel_1 lk_RX6_19 rfl rfl ?_
  refine x_getI dX6_hasChannel_4 lk_RX6_72 rfl rfl ?_
  refine x_jn 15 (fun (v1 : Int32) => [none]) (fun (v1 : Int32) => [.int v1]) (fun v1 s2 => ?_) (fun j3 hj3 => ?_)
  · exact x_zret dX6_hasChannel_15 rfl
  · refine x_if_le 14 dX6_hasChannel_7 (by decide) (fun _ => ?_) (fun _ => ?_)
    · refine x_iconst (v := 0) dX6_hasChannel_14 rfl ?_
      exact x_sub (x_le_n x_le_e) (hj3 0 _)
    · refine x_iconst (v := 1) dX6_hasChannel_10 rfl ?_
      refine x_goto 15 dX6_hasChannel_11 (by decide) ?_
      exact x_sub (x_le_n x_le_e) (hj3 1 _)

theorem c_X6_pack (σ : xSt) : CON κi yX6_pack m_X6_pack true 5 shC [.ref 0] σ (f_X6_pack σ) := by
  refine x_con (L := [some (.ref 0)]) (by decide) rfl rfl rfl ?_
  unfold f_X6_pack
  refine x_aload_n dX6_pack_0 rfl rfl ?_
  refine x_callV0i dX6_pack_1 lc_RX6_118 (c_X6_hasChannel _) rfl rfl rfl rfl rfl (fun r1 s2 => ?_)
  refine x_jn 17 (fun (v9 : Unit) => [none]) (fun (v9 : Unit) => []) (fun v9 s10 => ?_) (fun j11 hj11 => ?_)
  · refine x_bipush (v := -103) dX6_pack_17 rfl ?_
    exact x_iret dX6_pack_19 rfl
  · refine x_if_eq 17 dX6_pack_4 (by decide) (fun _ => ?_) (fun _ => ?_)
    · exact x_sub (x_le_n x_le_e) (hj11 () _)
    · refine x_aload_n dX6_pack_7 rfl rfl ?_
      refine x_getR dX6_pack_8 lk_RX6_26 rfl rfl ?_
      refine x_callV0i dX6_pack_11 lc_RX6_237 (c_X3_hasCycle_5 _) rfl rfl rfl rfl rfl (fun r12 s13 => ?_)
      refine x_if_eq 20 dX6_pack_14 (by decide) (fun _ => ?_) (fun _ => ?_)
      · refine x_aload_n dX6_pack_20 rfl rfl ?_
        refine x_getR dX6_pack_21 lk_RX6_50 rfl rfl ?_
        refine x_aload_n dX6_pack_24 rfl rfl ?_
        refine x_getR dX6_pack_25 lk_RX6_26 rfl rfl ?_
        refine x_callV1v dX6_pack_28 lc_RX6_240 (c_X1_fillFromLeft _) rfl rfl rfl rfl rfl (fun r14 s15 => ?_)
        refine x_aload_n dX6_pack_31 rfl rfl ?_
        refine x_getR dX6_pack_32 lk_RX6_50 rfl rfl ?_
        refine x_callV0i dX6_pack_35 lc_RX6_122 (c_X1_depth _) rfl rfl rfl rfl rfl (fun r16 s17 => ?_)
        exact x_iret dX6_pack_38 rfl
      · exact x_sub (x_le_n x_le_e) (hj11 () _)

theorem c_X6_best (σ : xSt) : CON κi yX6_best m_X6_best true 16 shC [.ref 0] σ (f_X6_best σ) := by
  refine x_con (L := [some (.ref 0)]) (by decide) rfl rfl rfl ?_
  unfold f_X6_best
  refine x_aload_n dX6_best_0 rfl rfl ?_
  refine x_callV0i dX6_best_1 lc_RX6_118 (c_X6_hasChannel _) rfl rfl rfl rfl rfl (fun r1 s2 => ?_)
  refine x_jn 17 (fun (v18 : Unit) => [none]) (fun (v18 : Unit) => []) (fun v18 s19 => ?_) (fun j20 hj20 => ?_)
  · refine x_bipush (v := -103) dX6_best_17 rfl ?_
    exact x_iret dX6_best_19 rfl
  · refine x_if_eq 17 dX6_best_4 (by decide) (fun _ => ?_) (fun _ => ?_)
    · exact x_sub (x_le_n x_le_e) (hj20 () _)
    · refine x_aload_n dX6_best_7 rfl rfl ?_
      refine x_getR dX6_best_8 lk_RX6_26 rfl rfl ?_
      refine x_callV0i dX6_best_11 lc_RX6_237 (c_X3_hasCycle_5 _) rfl rfl rfl rfl rfl (fun r21 s22 => ?_)
      refine x_if_eq 20 dX6_best_14 (by decide) (fun _ => ?_) (fun _ => ?_)
      · refine x_aload_n dX6_best_20 rfl rfl ?_
        refine x_getR dX6_best_21 lk_RX6_26 rfl rfl ?_
        refine x_getI dX6_best_24 lk_RX6_132 rfl rfl ?_
        refine x_bipush (v := 8) dX6_best_27 rfl ?_
        refine x_jn 41 (fun (v28 : Unit) => [none]) (fun (v28 : Unit) => []) (fun v28 s29 => ?_) (fun j30 hj30 => ?_)
        · refine x_bipush (v := -103) dX6_best_41 rfl ?_
          exact x_iret dX6_best_43 rfl
        · refine x_icmp_gt 41 dX6_best_29 (by decide) (fun _ => ?_) (fun _ => ?_)
          · exact x_sub (x_le_n x_le_e) (hj30 () _)
          · refine x_aload_n dX6_best_32 rfl rfl ?_
            refine x_getI dX6_best_33 lk_RX6_244 rfl rfl ?_
            refine x_bipush (v := 20) dX6_best_36 rfl ?_
            refine x_icmp_lt 44 dX6_best_38 (by decide) (fun _ => ?_) (fun _ => ?_)
            · refine x_aload_n dX6_best_44 rfl rfl ?_
              refine x_getR dX6_best_45 lk_RX6_50 rfl rfl ?_
              refine x_aload_n dX6_best_48 rfl rfl ?_
              refine x_getR dX6_best_49 lk_RX6_26 rfl rfl ?_
              refine x_aload_n dX6_best_52 rfl rfl ?_
              refine x_getR dX6_best_53 lk_RX6_26 rfl rfl ?_
              refine x_getI dX6_best_56 lk_RX6_138 rfl rfl ?_
              refine x_aload_n dX6_best_59 rfl rfl ?_
              refine x_getR dX6_best_60 lk_RX6_43 rfl rfl ?_
              refine x_getI dX6_best_63 lk_RX6_135 rfl rfl ?_
              refine x_mmax dX6_best_66 lm_RX6_247 rfl rfl ?_
              refine x_callV2v dX6_best_69 lc_RX6_252 (c_X1_fillBest _ _) rfl rfl rfl rfl rfl (fun r31 s32 => ?_)
              refine x_aload_n dX6_best_72 rfl rfl ?_
              refine x_dup dX6_best_73 rfl ?_
              refine x_getI dX6_best_74 lk_RX6_244 rfl rfl ?_
              refine x_iconst (v := 1) dX6_best_77 rfl ?_
              refine x_iadd dX6_best_78 ?_
              refine x_putIB dX6_best_79 lp_RX6_244 rfl rfl (fun s33 => ?_)
              refine x_aload_n dX6_best_82 rfl rfl ?_
              refine x_getR dX6_best_83 lk_RX6_50 rfl rfl ?_
              refine x_callV0i dX6_best_86 lc_RX6_122 (c_X1_depth _) rfl rfl rfl rfl rfl (fun r34 s35 => ?_)
              exact x_iret dX6_best_89 rfl
            · exact x_sub (x_le_n x_le_e) (hj30 () _)
      · exact x_sub (x_le_n x_le_e) (hj20 () _)

theorem c_X6_clear (σ : xSt) : CON κi yX6_clear m_X6_clear true 1 shC [.ref 0] σ (f_X6_clear σ) := by
  refine x_con (L := [some (.ref 0), none]) (by decide) rfl rfl rfl ?_
  unfold f_X6_clear
  refine x_aload_n dX6_clear_0 rfl rfl ?_
  refine x_callV0i dX6_clear_1 lc_RX6_118 (c_X6_hasChannel _) rfl rfl rfl rfl rfl (fun r1 s2 => ?_)
  refine x_if_ne 10 dX6_clear_4 (by decide) (fun _ => ?_) (fun _ => ?_)
  · refine x_aload_n dX6_clear_10 rfl rfl ?_
    refine x_getR dX6_clear_11 lk_RX6_50 rfl rfl ?_
    refine x_callV0i dX6_clear_14 lc_RX6_231 (c_X1_placed _) rfl rfl rfl rfl rfl (fun r3 s4 => ?_)
    refine x_istore_n dX6_clear_17 rfl rfl rfl ?_
    refine x_aload_n dX6_clear_18 rfl rfl ?_
    refine x_getR dX6_clear_19 lk_RX6_50 rfl rfl ?_
    refine x_callV0v dX6_clear_22 lc_RX6_234 (c_X1_takeAllAway _) rfl rfl rfl rfl rfl (fun r5 s6 => ?_)
    refine x_iload_n dX6_clear_25 rfl rfl ?_
    exact x_iret dX6_clear_26 rfl
  · refine x_bipush (v := -103) dX6_clear_7 rfl ?_
    exact x_iret dX6_clear_9 rfl

theorem c_X6_isNet (a0 : Int32) (σ : xSt) : CON κi yX6_isNet m_X6_isNet true 0 shC [.int a0] σ (f_X6_isNet a0 σ) := by
  refine x_con (L := [some (.int a0)]) (by decide) rfl rfl rfl ?_
  unfold f_X6_isNet
  refine x_iload_n dX6_isNet_0 rfl rfl ?_
  refine x_jn 15 (fun (v4 : Int32) => [none]) (fun (v4 : Int32) => [.int v4]) (fun v4 s5 => ?_) (fun j6 hj6 => ?_)
  · exact x_zret dX6_isNet_15 rfl
  · refine x_jn 14 (fun (v7 : Unit) => [none]) (fun (v7 : Unit) => []) (fun v7 s8 => ?_) (fun j9 hj9 => ?_)
    · refine x_iconst (v := 0) dX6_isNet_14 rfl ?_
      exact x_sub (x_le_n x_le_e) (hj6 0 _)
    · refine x_if_lt 14 dX6_isNet_1 (by decide) (fun _ => ?_) (fun _ => ?_)
      · exact x_sub (x_le_n x_le_e) (hj9 () _)
      · refine x_iload_n dX6_isNet_4 rfl rfl ?_
        refine x_bipush (v := 6) dX6_isNet_5 rfl ?_
        refine x_icmp_ge 14 dX6_isNet_7 (by decide) (fun _ => ?_) (fun _ => ?_)
        · exact x_sub (x_le_n x_le_e) (hj9 () _)
        · refine x_iconst (v := 1) dX6_isNet_10 rfl ?_
          refine x_goto 15 dX6_isNet_11 (by decide) ?_
          exact x_sub (x_le_n x_le_e) (hj6 1 _)

theorem c_X6_isSplit (a1 : Int32) (σ : xSt) : CON κi yX6_isSplit m_X6_isSplit true 0 shC [.ref 0, .int a1] σ (f_X6_isSplit a1 σ) := by
  refine x_con (L := [some (.ref 0), some (.int a1)]) (by decide) rfl rfl rfl ?_
  unfold f_X6_isSplit
  refine x_aload_n dX6_isSplit_0 rfl rfl ?_
  refine x_getI dX6_isSplit_1 lk_RX6_83 rfl rfl ?_
  refine x_iconst (v := 1) dX6_isSplit_4 rfl ?_
  refine x_iload_n dX6_isSplit_5 rfl rfl ?_
  refine x_ishl dX6_isSplit_6 ?_
  refine x_iand dX6_isSplit_7 ?_
  refine x_jn 16 (fun (v1 : Int32) => [none, none]) (fun (v1 : Int32) => [.int v1]) (fun v1 s2 => ?_) (fun j3 hj3 => ?_)
  · exact x_zret dX6_isSplit_16 rfl
  · refine x_if_eq 15 dX6_isSplit_8 (by decide) (fun _ => ?_) (fun _ => ?_)
    · refine x_iconst (v := 0) dX6_isSplit_15 rfl ?_
      exact x_sub (x_le_n (x_le_n x_le_e)) (hj3 0 _)
    · refine x_iconst (v := 1) dX6_isSplit_11 rfl ?_
      refine x_goto 16 dX6_isSplit_12 (by decide) ?_
      exact x_sub (x_le_n (x_le_n x_le_e)) (hj3 1 _)

theorem c_X6_cut (a1 : Int32) (a2 : Int32) (σ : xSt) : CON κi yX6_cut m_X6_cut true 5 shC [.ref 0, .int a1, .int a2] σ (f_X6_cut a1 a2 σ) := by
  refine x_con (L := [some (.ref 0), some (.int a1), some (.int a2)]) (by decide) rfl rfl rfl ?_
  unfold f_X6_cut
  refine x_aload_n dX6_cut_0 rfl rfl ?_
  refine x_callV0i dX6_cut_1 lc_RX6_118 (c_X6_hasChannel _) rfl rfl rfl rfl rfl (fun r1 s2 => ?_)
  refine x_jn 14 (fun (v10 : Unit) => [none, none, none]) (fun (v10 : Unit) => []) (fun v10 s11 => ?_) (fun j12 hj12 => ?_)
  · refine x_bipush (v := -101) dX6_cut_14 rfl ?_
    exact x_iret dX6_cut_16 rfl
  · refine x_if_eq 14 dX6_cut_4 (by decide) (fun _ => ?_) (fun _ => ?_)
    · exact x_sub (x_le_n (x_le_n (x_le_n x_le_e))) (hj12 () _)
    · refine x_iload_n dX6_cut_7 rfl rfl ?_
      refine x_callS1i dX6_cut_8 lc_RX6_164 (c_X6_isNet _ _) rfl rfl (fun r13 s14 => ?_)
      refine x_if_ne 17 dX6_cut_11 (by decide) (fun _ => ?_) (fun _ => ?_)
      · refine x_aload_n dX6_cut_17 rfl rfl ?_
        refine x_iload_n dX6_cut_18 rfl rfl ?_
        refine x_callV1i dX6_cut_19 lc_RX6_179 (c_X6_isSplit _ _) rfl rfl rfl rfl rfl (fun r15 s16 => ?_)
        refine x_iload_n dX6_cut_22 rfl rfl ?_
        refine x_icmp_ne 29 dX6_cut_23 (by decide) (fun _ => ?_) (fun _ => ?_)
        · refine x_aload_n dX6_cut_29 rfl rfl ?_
          refine x_dup dX6_cut_30 rfl ?_
          refine x_getI dX6_cut_31 lk_RX6_83 rfl rfl ?_
          refine x_iconst (v := 1) dX6_cut_34 rfl ?_
          refine x_iload_n dX6_cut_35 rfl rfl ?_
          refine x_ishl dX6_cut_36 ?_
          refine x_ixor dX6_cut_37 ?_
          refine x_putIB dX6_cut_38 lp_RX6_83 rfl rfl (fun s17 => ?_)
          refine x_aload_n dX6_cut_41 rfl rfl ?_
          refine x_callV0v dX6_cut_42 lc_RX6_86 (c_X6_derive _) rfl rfl rfl rfl rfl (fun r18 s19 => ?_)
          refine x_aload_n dX6_cut_45 rfl rfl ?_
          refine x_getR dX6_cut_46 lk_RX6_26 rfl rfl ?_
          refine x_getI dX6_cut_49 lk_RX6_132 rfl rfl ?_
          exact x_iret dX6_cut_52 rfl
        · refine x_bipush (v := -103) dX6_cut_26 rfl ?_
          exact x_iret dX6_cut_28 rfl
      · exact x_sub (x_le_n (x_le_n (x_le_n x_le_e))) (hj12 () _)

theorem c_X6_isColumn (a1 : Int32) (σ : xSt) : CON κi yX6_isColumn m_X6_isColumn true 0 shC [.ref 0, .int a1] σ (f_X6_isColumn a1 σ) := by
  refine x_con (L := [some (.ref 0), some (.int a1)]) (by decide) rfl rfl rfl ?_
  unfold f_X6_isColumn
  refine x_iload_n dX6_isColumn_0 rfl rfl ?_
  refine x_jn 20 (fun (v4 : Int32) => [none, none]) (fun (v4 : Int32) => [.int v4]) (fun v4 s5 => ?_) (fun j6 hj6 => ?_)
  · exact x_zret dX6_isColumn_20 rfl
  · refine x_jn 19 (fun (v7 : Unit) => [none, none]) (fun (v7 : Unit) => []) (fun v7 s8 => ?_) (fun j9 hj9 => ?_)
    · refine x_iconst (v := 0) dX6_isColumn_19 rfl ?_
      exact x_sub (x_le_n (x_le_n x_le_e)) (hj6 0 _)
    · refine x_if_lt 19 dX6_isColumn_1 (by decide) (fun _ => ?_) (fun _ => ?_)
      · exact x_sub (x_le_n (x_le_n x_le_e)) (hj9 () _)
      · refine x_iload_n dX6_isColumn_4 rfl rfl ?_
        refine x_aload_n dX6_isColumn_5 rfl rfl ?_
        refine x_getR dX6_isColumn_6 lk_RX6_19 rfl rfl ?_
        refine x_getI dX6_isColumn_9 lk_RX6_72 rfl rfl ?_
        refine x_icmp_ge 19 dX6_isColumn_12 (by decide) (fun _ => ?_) (fun _ => ?_)
        · exact x_sub (x_le_n (x_le_n x_le_e)) (hj9 () _)
        · refine x_iconst (v := 1) dX6_isColumn_15 rfl ?_
          refine x_goto 20 dX6_isColumn_16 (by decide) ?_
          exact x_sub (x_le_n (x_le_n x_le_e)) (hj6 1 _)

theorem c_X6_turn (a1 : Int32) (σ : xSt) : CON κi yX6_turn m_X6_turn true 5 shC [.ref 0, .int a1] σ (f_X6_turn a1 σ) := by
  refine x_con (L := [some (.ref 0), some (.int a1), none, none]) (by decide) rfl rfl rfl ?_
  unfold f_X6_turn
  refine x_aload_n dX6_turn_0 rfl rfl ?_
  refine x_iload_n dX6_turn_1 rfl rfl ?_
  refine x_callV1i dX6_turn_2 lc_RX6_154 (c_X6_isColumn _ _) rfl rfl rfl rfl rfl (fun r1 s2 => ?_)
  refine x_if_ne 11 dX6_turn_5 (by decide) (fun _ => ?_) (fun _ => ?_)
  · refine x_aload_n dX6_turn_11 rfl rfl ?_
    refine x_getR dX6_turn_12 lk_RX6_19 rfl rfl ?_
    refine x_iload_n dX6_turn_15 rfl rfl ?_
    refine x_iconst (v := 0) dX6_turn_16 rfl ?_
    refine x_callV2i dX6_turn_17 lc_RX6_160 (c_X0_netOf _ _ _) rfl rfl rfl rfl rfl (fun r3 s4 => ?_)
    refine x_istore_n dX6_turn_20 rfl rfl rfl ?_
    refine x_aload_n dX6_turn_21 rfl rfl ?_
    refine x_getR dX6_turn_22 lk_RX6_19 rfl rfl ?_
    refine x_iload_n dX6_turn_25 rfl rfl ?_
    refine x_iconst (v := 1) dX6_turn_26 rfl ?_
    refine x_callV2i dX6_turn_27 lc_RX6_160 (c_X0_netOf _ _ _) rfl rfl rfl rfl rfl (fun r5 s6 => ?_)
    refine x_istore_n dX6_turn_30 rfl rfl rfl ?_
    refine x_aload_n dX6_turn_31 rfl rfl ?_
    refine x_getR dX6_turn_32 lk_RX6_19 rfl rfl ?_
    refine x_iload_n dX6_turn_35 rfl rfl ?_
    refine x_iconst (v := 0) dX6_turn_36 rfl ?_
    refine x_iload_n dX6_turn_37 rfl rfl ?_
    refine x_callV3v dX6_turn_38 lc_RX6_79 (c_X0_change _ _ _ _) rfl rfl rfl rfl rfl (fun r7 s8 => ?_)
    refine x_aload_n dX6_turn_41 rfl rfl ?_
    refine x_getR dX6_turn_42 lk_RX6_19 rfl rfl ?_
    refine x_iload_n dX6_turn_45 rfl rfl ?_
    refine x_iconst (v := 1) dX6_turn_46 rfl ?_
    refine x_iload_n dX6_turn_47 rfl rfl ?_
    refine x_callV3v dX6_turn_48 lc_RX6_79 (c_X0_change _ _ _ _) rfl rfl rfl rfl rfl (fun r9 s10 => ?_)
    refine x_aload_n dX6_turn_51 rfl rfl ?_
    refine x_callV0v dX6_turn_52 lc_RX6_86 (c_X6_derive _) rfl rfl rfl rfl rfl (fun r11 s12 => ?_)
    refine x_iload_n dX6_turn_55 rfl rfl ?_
    exact x_iret dX6_turn_56 rfl
  · refine x_bipush (v := -101) dX6_turn_8 rfl ?_
    exact x_iret dX6_turn_10 rfl

theorem c_X6_isError (a0 : Int32) (σ : xSt) : CON κi yX6_isError m_X6_isError true 0 shC [.int a0] σ (f_X6_isError a0 σ) := by
  refine x_con (L := [some (.int a0)]) (by decide) rfl rfl rfl ?_
  unfold f_X6_isError
  refine x_iload_n dX6_isError_0 rfl rfl ?_
  refine x_bipush (v := -101) dX6_isError_1 rfl ?_
  refine x_jn 11 (fun (v1 : Int32) => [none]) (fun (v1 : Int32) => [.int v1]) (fun v1 s2 => ?_) (fun j3 hj3 => ?_)
  · exact x_zret dX6_isError_11 rfl
  · refine x_icmp_gt 10 dX6_isError_3 (by decide) (fun _ => ?_) (fun _ => ?_)
    · refine x_iconst (v := 0) dX6_isError_10 rfl ?_
      exact x_sub (x_le_n x_le_e) (hj3 0 _)
    · refine x_iconst (v := 1) dX6_isError_6 rfl ?_
      refine x_goto 11 dX6_isError_7 (by decide) ?_
      exact x_sub (x_le_n x_le_e) (hj3 1 _)

theorem c_X6_say (σ : xSt) : CON κi yX6_say m_X6_say true 17 shC [.ref 0] σ (f_X6_say σ) := by
  refine x_con (L := [some (.ref 0), none, none, none]) (by decide) rfl rfl rfl ?_
  unfold f_X6_say
  refine x_aload_n dX6_say_0 rfl rfl ?_
  refine x_getR dX6_say_1 lk_RX6_10 rfl rfl ?_
  refine x_callV0i dX6_say_4 lc_RX6_92 (c_X4_command _) rfl rfl rfl rfl rfl (fun r1 s2 => ?_)
  refine x_istore_n dX6_say_7 rfl rfl rfl ?_
  refine x_iload_n dX6_say_8 rfl rfl ?_
  refine x_iconst (v := -1) dX6_say_9 rfl ?_
  refine x_icmp_ne 16 dX6_say_10 (by decide) (fun _ => ?_) (fun _ => ?_)
  · refine x_aload_n dX6_say_16 rfl rfl ?_
    refine x_getR dX6_say_17 lk_RX6_10 rfl rfl ?_
    refine x_callV0i dX6_say_20 lc_RX6_95 (c_X4_lastCode _) rfl rfl rfl rfl rfl (fun r3 s4 => ?_)
    refine x_istore_n dX6_say_23 rfl rfl rfl ?_
    refine x_iload_n dX6_say_24 rfl rfl ?_
    refine x_jn 123 (fun (v25 : Int32) => [some (.ref 0), none, none, some (.int v25)]) (fun (v25 : Int32) => []) (fun v25 s26 => ?_) (fun j27 hj27 => ?_)
    · refine x_iload_n dX6_say_123 rfl rfl ?_
      refine x_callS1i dX6_say_124 lc_RX6_114 (c_X6_isError _ _) rfl rfl (fun r28 s29 => ?_)
      refine x_jn 138 (fun (v31 : Unit) => [none, none, none, some (.int v25)]) (fun (v31 : Unit) => []) (fun v31 s32 => ?_) (fun j33 hj33 => ?_)
      · refine x_iload_n dX6_say_138 rfl rfl ?_
        exact x_iret dX6_say_139 rfl
      · refine x_if_ne 138 dX6_say_127 (by decide) (fun _ => ?_) (fun _ => ?_)
        · exact x_sub (x_le_n (x_le_n (x_le_n (x_le_s rfl x_le_e)))) (hj33 () _)
        · refine x_aload_n dX6_say_130 rfl rfl ?_
          refine x_getR dX6_say_131 lk_RX6_10 rfl rfl ?_
          refine x_iconst (v := 0) dX6_say_134 rfl ?_
          refine x_putIB dX6_say_135 lp_RX6_54 rfl rfl (fun s34 => ?_)
          exact x_sub (x_le_n (x_le_n (x_le_n (x_le_s rfl x_le_e)))) (hj33 () _)
    · refine x_ite (fun c37 => ?_) (fun c37 => ?_)
      · refine x_tabI 64 dX6_say_25 c37 (by decide) (by decide) rfl (by decide) ?_
        refine x_aload_n dX6_say_64 rfl rfl ?_
        refine x_callV0i dX6_say_65 lc_RX6_98 (c_X6_pack _) rfl rfl rfl rfl rfl (fun r35 s36 => ?_)
        refine x_istore_n dX6_say_68 rfl rfl rfl ?_
        refine x_goto 123 dX6_say_69 (by decide) ?_
        exact x_sub (x_le_s rfl (x_le_n (x_le_n (x_le_s rfl x_le_e)))) (hj27 r35 _)
      refine x_ite (fun c40 => ?_) (fun c40 => ?_)
      · refine x_tabI 72 dX6_say_25 c40 (by decide) (by decide) rfl (by decide) ?_
        refine x_aload_n dX6_say_72 rfl rfl ?_
        refine x_callV0i dX6_say_73 lc_RX6_101 (c_X6_best _) rfl rfl rfl rfl rfl (fun r38 s39 => ?_)
        refine x_istore_n dX6_say_76 rfl rfl rfl ?_
        refine x_goto 123 dX6_say_77 (by decide) ?_
        exact x_sub (x_le_s rfl (x_le_n (x_le_n (x_le_s rfl x_le_e)))) (hj27 r38 _)
      refine x_ite (fun c43 => ?_) (fun c43 => ?_)
      · refine x_tabI 80 dX6_say_25 c43 (by decide) (by decide) rfl (by decide) ?_
        refine x_aload_n dX6_say_80 rfl rfl ?_
        refine x_callV0i dX6_say_81 lc_RX6_104 (c_X6_clear _) rfl rfl rfl rfl rfl (fun r41 s42 => ?_)
        refine x_istore_n dX6_say_84 rfl rfl rfl ?_
        refine x_goto 123 dX6_say_85 (by decide) ?_
        exact x_sub (x_le_s rfl (x_le_n (x_le_n (x_le_s rfl x_le_e)))) (hj27 r41 _)
      refine x_ite (fun c46 => ?_) (fun c46 => ?_)
      · refine x_tabI 88 dX6_say_25 c46 (by decide) (by decide) rfl (by decide) ?_
        refine x_aload_n dX6_say_88 rfl rfl ?_
        refine x_iload_n dX6_say_89 rfl rfl ?_
        refine x_bipush (v := 97) dX6_say_90 rfl ?_
        refine x_isub dX6_say_92 ?_
        refine x_iconst (v := 1) dX6_say_93 rfl ?_
        refine x_callV2i dX6_say_94 lc_RX6_107 (c_X6_cut _ _ _) rfl rfl rfl rfl rfl (fun r44 s45 => ?_)
        refine x_istore_n dX6_say_97 rfl rfl rfl ?_
        refine x_goto 123 dX6_say_98 (by decide) ?_
        exact x_sub (x_le_s rfl (x_le_n (x_le_n (x_le_s rfl x_le_e)))) (hj27 r44 _)
      refine x_ite (fun c49 => ?_) (fun c49 => ?_)
      · refine x_tabI 101 dX6_say_25 c49 (by decide) (by decide) rfl (by decide) ?_
        refine x_aload_n dX6_say_101 rfl rfl ?_
        refine x_iload_n dX6_say_102 rfl rfl ?_
        refine x_bipush (v := 97) dX6_say_103 rfl ?_
        refine x_isub dX6_say_105 ?_
        refine x_iconst (v := 0) dX6_say_106 rfl ?_
        refine x_callV2i dX6_say_107 lc_RX6_107 (c_X6_cut _ _ _) rfl rfl rfl rfl rfl (fun r47 s48 => ?_)
        refine x_istore_n dX6_say_110 rfl rfl rfl ?_
        refine x_goto 123 dX6_say_111 (by decide) ?_
        exact x_sub (x_le_s rfl (x_le_n (x_le_n (x_le_s rfl x_le_e)))) (hj27 r47 _)
      refine x_ite (fun c52 => ?_) (fun c52 => ?_)
      · refine x_tabI 114 dX6_say_25 c52 (by decide) (by decide) rfl (by decide) ?_
        refine x_aload_n dX6_say_114 rfl rfl ?_
        refine x_iload_n dX6_say_115 rfl rfl ?_
        refine x_bipush (v := 48) dX6_say_116 rfl ?_
        refine x_isub dX6_say_118 ?_
        refine x_callV1i dX6_say_119 lc_RX6_111 (c_X6_turn _ _) rfl rfl rfl rfl rfl (fun r50 s51 => ?_)
        refine x_istore_n dX6_say_122 rfl rfl rfl ?_
        exact x_sub (x_le_s rfl (x_le_n (x_le_n (x_le_s rfl x_le_e)))) (hj27 r50 _)
      have ec37 := x_ne 0 (by decide) c37
      have ec40 := x_ne 1 (by decide) c40
      have ec43 := x_ne 2 (by decide) c43
      have ec46 := x_ne 3 (by decide) c46
      have ec49 := x_ne 4 (by decide) c49
      have ec52 := x_ne 5 (by decide) c52
      refine x_tabO 114 dX6_say_25 (by omega) (by decide) ?_
      refine x_aload_n dX6_say_114 rfl rfl ?_
      refine x_iload_n dX6_say_115 rfl rfl ?_
      refine x_bipush (v := 48) dX6_say_116 rfl ?_
      refine x_isub dX6_say_118 ?_
      refine x_callV1i dX6_say_119 lc_RX6_111 (c_X6_turn _ _) rfl rfl rfl rfl rfl (fun r53 s54 => ?_)
      refine x_istore_n dX6_say_122 rfl rfl rfl ?_
      exact x_sub (x_le_s rfl (x_le_n (x_le_n (x_le_s rfl x_le_e)))) (hj27 r53 _)
  · refine x_bipush (v := -103) dX6_say_13 rfl ?_
    exact x_iret dX6_say_15 rfl

theorem c_X6_inkOf (a0 : Int32) (σ : xSt) : CON κi yX6_inkOf m_X6_inkOf true 1 shC [.int a0] σ (f_X6_inkOf a0 σ) := by
  refine x_con (L := [some (.int a0)]) (by decide) rfl rfl rfl ?_
  unfold f_X6_inkOf
  refine x_iload_n dX6_inkOf_0 rfl rfl ?_
  refine x_if_ne 7 dX6_inkOf_1 (by decide) (fun _ => ?_) (fun _ => ?_)
  · refine x_iload_n dX6_inkOf_7 rfl rfl ?_
    refine x_callS1i dX6_inkOf_8 lc_RX6_204 (c_J6_bitCount_0f7a4 _ _) rfl rfl (fun r1 s2 => ?_)
    refine x_iconst (v := 1) dX6_inkOf_11 rfl ?_
    refine x_jn 27 (fun (v5 : Int32) => [none]) (fun (v5 : Int32) => [.int v5]) (fun v5 s6 => ?_) (fun j7 hj7 => ?_)
    · exact x_iret dX6_inkOf_27 rfl
    · refine x_icmp_le 20 dX6_inkOf_12 (by decide) (fun _ => ?_) (fun _ => ?_)
      · refine x_bipush (v := 97) dX6_inkOf_20 rfl ?_
        refine x_iload_n dX6_inkOf_22 rfl rfl ?_
        refine x_callS1i dX6_inkOf_23 lc_RX6_173 (c_X6_lowest _ _) rfl rfl (fun r8 s9 => ?_)
        refine x_iadd dX6_inkOf_26 ?_
        exact x_sub (x_le_n x_le_e) (hj7 ((97 : Int32) + r8) _)
      · refine x_bipush (v := 35) dX6_inkOf_15 rfl ?_
        refine x_goto 27 dX6_inkOf_17 (by decide) ?_
        exact x_sub (x_le_n x_le_e) (hj7 35 _)
  · refine x_bipush (v := 46) dX6_inkOf_4 rfl ?_
    exact x_iret dX6_inkOf_6 rfl

theorem c_X6_ink (a1 : Int32) (σ : xSt) : CON κi yX6_ink m_X6_ink true 2 shC [.ref 0, .int a1] σ (f_X6_ink a1 σ) := by
  refine x_con (L := [some (.ref 0), some (.int a1), none, none, none, none]) (by decide) rfl rfl rfl ?_
  unfold f_X6_ink
  refine x_aload_n dX6_ink_0 rfl rfl ?_
  refine x_callV0i dX6_ink_1 lc_RX6_118 (c_X6_hasChannel _) rfl rfl rfl rfl rfl (fun r1 s2 => ?_)
  refine x_jn 11 (fun (v15 : Unit) => [none, none, none, none, none, none]) (fun (v15 : Unit) => []) (fun v15 s16 => ?_) (fun j17 hj17 => ?_)
  · refine x_bipush (v := -101) dX6_ink_11 rfl ?_
    exact x_iret dX6_ink_13 rfl
  · refine x_if_eq 11 dX6_ink_4 (by decide) (fun _ => ?_) (fun _ => ?_)
    · exact x_sub (x_le_n (x_le_n (x_le_n (x_le_n (x_le_n (x_le_n x_le_e)))))) (hj17 () _)
    · refine x_iload_n dX6_ink_7 rfl rfl ?_
      refine x_if_ge 14 dX6_ink_8 (by decide) (fun _ => ?_) (fun _ => ?_)
      · refine x_aload_n dX6_ink_14 rfl rfl ?_
        refine x_getR dX6_ink_15 lk_RX6_19 rfl rfl ?_
        refine x_getI dX6_ink_18 lk_RX6_72 rfl rfl ?_
        refine x_iconst (v := 1) dX6_ink_21 rfl ?_
        refine x_iadd dX6_ink_22 ?_
        refine x_istore_nB dX6_ink_23 rfl rfl rfl (fun x18 => ?_)
        refine x_iload_n dX6_ink_24 rfl rfl ?_
        refine x_iload_n dX6_ink_25 rfl rfl ?_
        refine x_idiv dX6_ink_26 ?_
        refine x_istore_nB dX6_ink_27 rfl rfl rfl (fun x19 => ?_)
        refine x_iload_n dX6_ink_28 rfl rfl ?_
        refine x_iload_n dX6_ink_29 rfl rfl ?_
        refine x_irem dX6_ink_30 ?_
        refine x_istoreB dX6_ink_31 rfl rfl (fun x20 => ?_)
        refine x_aload_n dX6_ink_33 rfl rfl ?_
        refine x_getR dX6_ink_34 lk_RX6_50 rfl rfl ?_
        refine x_callV0i dX6_ink_37 lc_RX6_122 (c_X1_depth _) rfl rfl rfl rfl rfl (fun r21 s22 => ?_)
        refine x_istore dX6_ink_40 rfl rfl ?_
        refine x_iload_n dX6_ink_42 rfl rfl ?_
        refine x_iload dX6_ink_43 rfl ?_
        refine x_icmp_lt 51 dX6_ink_45 (by decide) (fun _ => ?_) (fun _ => ?_)
        · refine x_iload dX6_ink_51 rfl ?_
          refine x_aload_n dX6_ink_53 rfl rfl ?_
          refine x_getR dX6_ink_54 lk_RX6_19 rfl rfl ?_
          refine x_getI dX6_ink_57 lk_RX6_72 rfl rfl ?_
          refine x_icmp_ge 81 dX6_ink_60 (by decide) (fun _ => ?_) (fun _ => ?_)
          · refine x_iload_n dX6_ink_81 rfl rfl ?_
            refine x_iload dX6_ink_82 rfl ?_
            refine x_iconst (v := 1) dX6_ink_84 rfl ?_
            refine x_isub dX6_ink_85 ?_
            refine x_jn 96 (fun (v23 : Int32) => [none, none, none, none, none, none]) (fun (v23 : Int32) => [.int v23]) (fun v23 s24 => ?_) (fun j25 hj25 => ?_)
            · exact x_iret dX6_ink_96 rfl
            · refine x_icmp_ge 94 dX6_ink_86 (by decide) (fun _ => ?_) (fun _ => ?_)
              · refine x_bipush (v := -101) dX6_ink_94 rfl ?_
                exact x_sub (x_le_n (x_le_n (x_le_n (x_le_n (x_le_n (x_le_n x_le_e)))))) (hj25 (-101) _)
              · refine x_bipush (v := 47) dX6_ink_89 rfl ?_
                refine x_goto 96 dX6_ink_91 (by decide) ?_
                exact x_sub (x_le_n (x_le_n (x_le_n (x_le_n (x_le_n (x_le_n x_le_e)))))) (hj25 47 _)
          · refine x_aload_n dX6_ink_63 rfl rfl ?_
            refine x_getR dX6_ink_64 lk_RX6_50 rfl rfl ?_
            refine x_aload_n dX6_ink_67 rfl rfl ?_
            refine x_getR dX6_ink_68 lk_RX6_26 rfl rfl ?_
            refine x_iload_n dX6_ink_71 rfl rfl ?_
            refine x_iload dX6_ink_72 rfl ?_
            refine x_callV3i dX6_ink_74 lc_RX6_125 (c_X1_horizontalNets _ _ _) rfl rfl rfl rfl rfl (fun r26 s27 => ?_)
            refine x_callS1i dX6_ink_77 lc_RX6_129 (c_X6_inkOf _ _) rfl rfl (fun r28 s29 => ?_)
            exact x_iret dX6_ink_80 rfl
        · refine x_bipush (v := -101) dX6_ink_48 rfl ?_
          exact x_iret dX6_ink_50 rfl
      · exact x_sub (x_le_n (x_le_n (x_le_n (x_le_n (x_le_n (x_le_n x_le_e)))))) (hj17 () _)

theorem t_X6_breakingSet_18 (w1 : Int32) (w2 : Int32) (k : xSt → Option (Int32 × xSt)) (hk : ∀ (σ : xSt), XP κi true m_X6_breakingSet 3 shC 70 [some (.ref 0), some (.int w1), some (.int w2), none] [] σ (k  σ)) : ∀ (n : Nat) (w3 : Int32) (σ : xSt), XP κi true m_X6_breakingSet 3 shC 18 [some (.ref 0), some (.int w1), some (.int w2), some (.int w3)] [] σ (f_X6_breakingSet_18 w1 w2 k n w3 σ) := by
  intro n
  induction n with
  | zero => intro w3 σ; exact x_none
  | succ n ih =>
    intro w3 σ
    rw [f_X6_breakingSet_18]
    refine x_iload_n dX6_breakingSet_18 rfl rfl ?_
    refine x_bipush (v := 64) dX6_breakingSet_19 rfl ?_
    refine x_icmp_ge 70 dX6_breakingSet_21 (by decide) (fun _ => ?_) (fun _ => ?_)
    · exact x_sub (x_le_s rfl (x_le_s rfl (x_le_s rfl (x_le_n x_le_e)))) (hk  _)
    · refine x_iload_n dX6_breakingSet_24 rfl rfl ?_
      refine x_callS1i dX6_breakingSet_25 lc_RX6_204 (c_J6_bitCount_0f7a4 _ _) rfl rfl (fun r3 s4 => ?_)
      refine x_iload_n dX6_breakingSet_28 rfl rfl ?_
      refine x_jn 64 (fun (v9 : Unit) => [some (.ref 0), some (.int w1), some (.int w2), some (.int w3)]) (fun (v9 : Unit) => []) (fun v9 s10 => ?_) (fun j11 hj11 => ?_)
      · refine x_iinc dX6_breakingSet_64 rfl rfl rfl rfl ?_
        refine x_goto 18 dX6_breakingSet_67 (by decide) ?_
        exact x_sub (x_le_s rfl (x_le_s rfl (x_le_s rfl (x_le_s rfl x_le_e)))) (ih _ _)
      · refine x_icmp_ne 64 dX6_breakingSet_29 (by decide) (fun _ => ?_) (fun _ => ?_)
        · exact x_sub (x_le_s rfl (x_le_s rfl (x_le_s rfl (x_le_s rfl x_le_e)))) (hj11 () _)
        · refine x_iload_n dX6_breakingSet_32 rfl rfl ?_
          refine x_iload_n dX6_breakingSet_33 rfl rfl ?_
          refine x_iconst (v := -1) dX6_breakingSet_34 rfl ?_
          refine x_ixor dX6_breakingSet_35 ?_
          refine x_iand dX6_breakingSet_36 ?_
          refine x_if_ne 64 dX6_breakingSet_37 (by decide) (fun _ => ?_) (fun _ => ?_)
          · exact x_sub (x_le_s rfl (x_le_s rfl (x_le_s rfl (x_le_s rfl x_le_e)))) (hj11 () _)
          · refine x_aload_n dX6_breakingSet_40 rfl rfl ?_
            refine x_getR dX6_breakingSet_41 lk_RX6_30 rfl rfl ?_
            refine x_aload_n dX6_breakingSet_44 rfl rfl ?_
            refine x_getR dX6_breakingSet_45 lk_RX6_19 rfl rfl ?_
            refine x_iload_n dX6_breakingSet_48 rfl rfl ?_
            refine x_callV2v dX6_breakingSet_49 lc_RX6_307 (c_X3_build_14 _ _) rfl rfl rfl rfl rfl (fun r12 s13 => ?_)
            refine x_aload_n dX6_breakingSet_52 rfl rfl ?_
            refine x_getR dX6_breakingSet_53 lk_RX6_30 rfl rfl ?_
            refine x_callV0i dX6_breakingSet_56 lc_RX6_237 (c_X3_hasCycle_14 _) rfl rfl rfl rfl rfl (fun r14 s15 => ?_)
            refine x_if_ne 64 dX6_breakingSet_59 (by decide) (fun _ => ?_) (fun _ => ?_)
            · exact x_sub (x_le_s rfl (x_le_s rfl (x_le_s rfl (x_le_s rfl x_le_e)))) (hj11 () _)
            · refine x_iload_n dX6_breakingSet_62 rfl rfl ?_
              exact x_iret dX6_breakingSet_63 rfl

theorem t_X6_breakingSet_10 (w1 : Int32) (k : xSt → Option (Int32 × xSt)) (hk : ∀ (σ : xSt), XP κi true m_X6_breakingSet 3 shC 76 [none, none, none, none] [] σ (k  σ)) : ∀ (n : Nat) (w2 : Int32) (σ : xSt), XP κi true m_X6_breakingSet 3 shC 10 [some (.ref 0), some (.int w1), some (.int w2), none] [] σ (f_X6_breakingSet_10 w1 k n w2 σ) := by
  intro n
  induction n with
  | zero => intro w2 σ; exact x_none
  | succ n ih =>
    intro w2 σ
    rw [f_X6_breakingSet_10]
    refine x_iload_n dX6_breakingSet_10 rfl rfl ?_
    refine x_bipush (v := 6) dX6_breakingSet_11 rfl ?_
    refine x_icmp_gt 76 dX6_breakingSet_13 (by decide) (fun _ => ?_) (fun _ => ?_)
    · exact x_sub (x_le_n (x_le_n (x_le_n (x_le_n x_le_e)))) (hk  _)
    · refine x_iconst (v := 0) dX6_breakingSet_16 rfl ?_
      refine x_istore_n dX6_breakingSet_17 rfl rfl rfl ?_
      refine x_sub (x_le_s rfl (x_le_s rfl (x_le_s rfl (x_le_s rfl x_le_e)))) (t_X6_breakingSet_18 _ _ _ (fun  s16 => ?_) FU _ _)
      refine x_iinc dX6_breakingSet_70 rfl rfl rfl rfl ?_
      refine x_goto 10 dX6_breakingSet_73 (by decide) ?_
      exact x_sub (x_le_s rfl (x_le_s rfl (x_le_s rfl (x_le_n x_le_e)))) (ih _ _)

theorem c_X6_breakingSet (σ : xSt) : CON κi yX6_breakingSet m_X6_breakingSet true 3 shC [.ref 0] σ (f_X6_breakingSet σ) := by
  refine x_con (L := [some (.ref 0), none, none, none]) (by decide) rfl rfl rfl ?_
  unfold f_X6_breakingSet
  refine x_aload_n dX6_breakingSet_0 rfl rfl ?_
  refine x_getR dX6_breakingSet_1 lk_RX6_19 rfl rfl ?_
  refine x_callV0i dX6_breakingSet_4 lc_RX6_316 (c_X0_splittableNets _) rfl rfl rfl rfl rfl (fun r1 s2 => ?_)
  refine x_istore_n dX6_breakingSet_7 rfl rfl rfl ?_
  refine x_iconst (v := 0) dX6_breakingSet_8 rfl ?_
  refine x_istore_n dX6_breakingSet_9 rfl rfl rfl ?_
  refine x_sub (x_le_s rfl (x_le_s rfl (x_le_s rfl (x_le_n x_le_e)))) (t_X6_breakingSet_10 _ _ (fun  s17 => ?_) FU _ _)
  refine x_iconst (v := -1) dX6_breakingSet_76 rfl ?_
  exact x_iret dX6_breakingSet_77 rfl

theorem c_X6_about (a1 : Int32) (σ : xSt) : CON κi yX6_about m_X6_about true 4 shC [.ref 0, .int a1] σ (f_X6_about a1 σ) := by
  refine x_con (L := [some (.ref 0), some (.int a1)]) (by decide) rfl rfl rfl ?_
  unfold f_X6_about
  refine x_iload_n dX6_about_0 rfl rfl ?_
  refine x_jn 10 (fun (v23 : Unit) => [none, none]) (fun (v23 : Unit) => []) (fun v23 s24 => ?_) (fun j25 hj25 => ?_)
  · refine x_bipush (v := -102) dX6_about_10 rfl ?_
    exact x_iret dX6_about_12 rfl
  · refine x_if_lt 10 dX6_about_1 (by decide) (fun _ => ?_) (fun _ => ?_)
    · exact x_sub (x_le_n (x_le_n x_le_e)) (hj25 () _)
    · refine x_iload_n dX6_about_4 rfl rfl ?_
      refine x_bipush (v := 9) dX6_about_5 rfl ?_
      refine x_icmp_le 13 dX6_about_7 (by decide) (fun _ => ?_) (fun _ => ?_)
      · refine x_aload_n dX6_about_13 rfl rfl ?_
        refine x_callV0i dX6_about_14 lc_RX6_118 (c_X6_hasChannel _) rfl rfl rfl rfl rfl (fun r26 s27 => ?_)
        refine x_if_ne 23 dX6_about_17 (by decide) (fun _ => ?_) (fun _ => ?_)
        · refine x_iload_n dX6_about_23 rfl rfl ?_
          refine x_ite (fun c28 => ?_) (fun c28 => ?_)
          · refine x_tabI 76 dX6_about_24 c28 (by decide) (by decide) rfl (by decide) ?_
            refine x_aload_n dX6_about_76 rfl rfl ?_
            refine x_getR dX6_about_77 lk_RX6_19 rfl rfl ?_
            refine x_getI dX6_about_80 lk_RX6_72 rfl rfl ?_
            exact x_iret dX6_about_83 rfl
          refine x_ite (fun c29 => ?_) (fun c29 => ?_)
          · refine x_tabI 84 dX6_about_24 c29 (by decide) (by decide) rfl (by decide) ?_
            refine x_aload_n dX6_about_84 rfl rfl ?_
            refine x_getR dX6_about_85 lk_RX6_26 rfl rfl ?_
            refine x_getI dX6_about_88 lk_RX6_132 rfl rfl ?_
            exact x_iret dX6_about_91 rfl
          refine x_ite (fun c30 => ?_) (fun c30 => ?_)
          · refine x_tabI 92 dX6_about_24 c30 (by decide) (by decide) rfl (by decide) ?_
            refine x_aload_n dX6_about_92 rfl rfl ?_
            refine x_getR dX6_about_93 lk_RX6_43 rfl rfl ?_
            refine x_getI dX6_about_96 lk_RX6_135 rfl rfl ?_
            exact x_iret dX6_about_99 rfl
          refine x_ite (fun c31 => ?_) (fun c31 => ?_)
          · refine x_tabI 100 dX6_about_24 c31 (by decide) (by decide) rfl (by decide) ?_
            refine x_aload_n dX6_about_100 rfl rfl ?_
            refine x_getR dX6_about_101 lk_RX6_26 rfl rfl ?_
            refine x_getI dX6_about_104 lk_RX6_138 rfl rfl ?_
            exact x_iret dX6_about_107 rfl
          refine x_ite (fun c32 => ?_) (fun c32 => ?_)
          · refine x_tabI 108 dX6_about_24 c32 (by decide) (by decide) rfl (by decide) ?_
            refine x_aload_n dX6_about_108 rfl rfl ?_
            refine x_getR dX6_about_109 lk_RX6_36 rfl rfl ?_
            refine x_getI dX6_about_112 lk_RX6_141 rfl rfl ?_
            exact x_iret dX6_about_115 rfl
          refine x_ite (fun c35 => ?_) (fun c35 => ?_)
          · refine x_tabI 116 dX6_about_24 c35 (by decide) (by decide) rfl (by decide) ?_
            refine x_aload_n dX6_about_116 rfl rfl ?_
            refine x_callV0i dX6_about_117 lc_RX6_142 (c_X6_breakingSet _) rfl rfl rfl rfl rfl (fun r33 s34 => ?_)
            exact x_iret dX6_about_120 rfl
          refine x_ite (fun c36 => ?_) (fun c36 => ?_)
          · refine x_tabI 121 dX6_about_24 c36 (by decide) (by decide) rfl (by decide) ?_
            refine x_aload_n dX6_about_121 rfl rfl ?_
            refine x_getR dX6_about_122 lk_RX6_43 rfl rfl ?_
            refine x_getI dX6_about_125 lk_RX6_145 rfl rfl ?_
            exact x_iret dX6_about_128 rfl
          refine x_ite (fun c39 => ?_) (fun c39 => ?_)
          · refine x_tabI 129 dX6_about_24 c39 (by decide) (by decide) rfl (by decide) ?_
            refine x_aload_n dX6_about_129 rfl rfl ?_
            refine x_getR dX6_about_130 lk_RX6_50 rfl rfl ?_
            refine x_callV0i dX6_about_133 lc_RX6_122 (c_X1_depth _) rfl rfl rfl rfl rfl (fun r37 s38 => ?_)
            exact x_iret dX6_about_136 rfl
          refine x_ite (fun c45 => ?_) (fun c45 => ?_)
          · refine x_tabI 137 dX6_about_24 c45 (by decide) (by decide) rfl (by decide) ?_
            refine x_aload_n dX6_about_137 rfl rfl ?_
            refine x_getR dX6_about_138 lk_RX6_50 rfl rfl ?_
            refine x_aload_n dX6_about_141 rfl rfl ?_
            refine x_getR dX6_about_142 lk_RX6_26 rfl rfl ?_
            refine x_callV1i dX6_about_145 lc_RX6_146 (c_X1_isValid _) rfl rfl rfl rfl rfl (fun r40 s41 => ?_)
            refine x_jn 156 (fun (v42 : Int32) => [none, none]) (fun (v42 : Int32) => [.int v42]) (fun v42 s43 => ?_) (fun j44 hj44 => ?_)
            · exact x_iret dX6_about_156 rfl
            · refine x_if_eq 155 dX6_about_148 (by decide) (fun _ => ?_) (fun _ => ?_)
              · refine x_iconst (v := 0) dX6_about_155 rfl ?_
                exact x_sub (x_le_n (x_le_n x_le_e)) (hj44 0 _)
              · refine x_iconst (v := 1) dX6_about_151 rfl ?_
                refine x_goto 156 dX6_about_152 (by decide) ?_
                exact x_sub (x_le_n (x_le_n x_le_e)) (hj44 1 _)
          have ec28 := x_ne 0 (by decide) c28
          have ec29 := x_ne 1 (by decide) c29
          have ec30 := x_ne 2 (by decide) c30
          have ec31 := x_ne 3 (by decide) c31
          have ec32 := x_ne 4 (by decide) c32
          have ec35 := x_ne 5 (by decide) c35
          have ec36 := x_ne 6 (by decide) c36
          have ec39 := x_ne 7 (by decide) c39
          have ec45 := x_ne 8 (by decide) c45
          refine x_tabO 157 dX6_about_24 (by omega) (by decide) ?_
          refine x_aload_n dX6_about_157 rfl rfl ?_
          refine x_getR dX6_about_158 lk_RX6_50 rfl rfl ?_
          refine x_aload_n dX6_about_161 rfl rfl ?_
          refine x_getR dX6_about_162 lk_RX6_19 rfl rfl ?_
          refine x_aload_n dX6_about_165 rfl rfl ?_
          refine x_getR dX6_about_166 lk_RX6_26 rfl rfl ?_
          refine x_callV2i dX6_about_169 lc_RX6_150 (c_X1_conflicts _) rfl rfl rfl rfl rfl (fun r46 s47 => ?_)
          exact x_iret dX6_about_172 rfl
        · refine x_bipush (v := -103) dX6_about_20 rfl ?_
          exact x_iret dX6_about_22 rfl
      · exact x_sub (x_le_n (x_le_n x_le_e)) (hj25 () _)

theorem c_X6_isSide (a0 : Int32) (σ : xSt) : CON κi yX6_isSide m_X6_isSide true 0 shC [.int a0] σ (f_X6_isSide a0 σ) := by
  refine x_con (L := [some (.int a0)]) (by decide) rfl rfl rfl ?_
  unfold f_X6_isSide
  refine x_iload_n dX6_isSide_0 rfl rfl ?_
  refine x_jn 14 (fun (v4 : Int32) => [none]) (fun (v4 : Int32) => [.int v4]) (fun v4 s5 => ?_) (fun j6 hj6 => ?_)
  · exact x_zret dX6_isSide_14 rfl
  · refine x_jn 9 (fun (v7 : Unit) => [none]) (fun (v7 : Unit) => []) (fun v7 s8 => ?_) (fun j9 hj9 => ?_)
    · refine x_iconst (v := 1) dX6_isSide_9 rfl ?_
      refine x_goto 14 dX6_isSide_10 (by decide) ?_
      exact x_sub (x_le_n x_le_e) (hj6 1 _)
    · refine x_if_eq 9 dX6_isSide_1 (by decide) (fun _ => ?_) (fun _ => ?_)
      · exact x_sub (x_le_n x_le_e) (hj9 () _)
      · refine x_iload_n dX6_isSide_4 rfl rfl ?_
        refine x_iconst (v := 1) dX6_isSide_5 rfl ?_
        refine x_icmp_ne 13 dX6_isSide_6 (by decide) (fun _ => ?_) (fun _ => ?_)
        · refine x_iconst (v := 0) dX6_isSide_13 rfl ?_
          exact x_sub (x_le_n x_le_e) (hj6 0 _)
        · exact x_sub (x_le_n x_le_e) (hj9 () _)

theorem c_X6_pin (a1 : Int32) (a2 : Int32) (σ : xSt) : CON κi yX6_pin m_X6_pin true 1 shC [.ref 0, .int a1, .int a2] σ (f_X6_pin a1 a2 σ) := by
  refine x_con (L := [some (.ref 0), some (.int a1), some (.int a2)]) (by decide) rfl rfl rfl ?_
  unfold f_X6_pin
  refine x_aload_n dX6_pin_0 rfl rfl ?_
  refine x_iload_n dX6_pin_1 rfl rfl ?_
  refine x_callV1i dX6_pin_2 lc_RX6_154 (c_X6_isColumn _ _) rfl rfl rfl rfl rfl (fun r1 s2 => ?_)
  refine x_if_ne 11 dX6_pin_5 (by decide) (fun _ => ?_) (fun _ => ?_)
  · refine x_iload_n dX6_pin_11 rfl rfl ?_
    refine x_callS1i dX6_pin_12 lc_RX6_157 (c_X6_isSide _ _) rfl rfl (fun r3 s4 => ?_)
    refine x_if_ne 21 dX6_pin_15 (by decide) (fun _ => ?_) (fun _ => ?_)
    · refine x_aload_n dX6_pin_21 rfl rfl ?_
      refine x_getR dX6_pin_22 lk_RX6_19 rfl rfl ?_
      refine x_iload_n dX6_pin_25 rfl rfl ?_
      refine x_iload_n dX6_pin_26 rfl rfl ?_
      refine x_callV2i dX6_pin_27 lc_RX6_160 (c_X0_netOf _ _ _) rfl rfl rfl rfl rfl (fun r5 s6 => ?_)
      exact x_iret dX6_pin_30 rfl
    · refine x_bipush (v := -102) dX6_pin_18 rfl ?_
      exact x_iret dX6_pin_20 rfl
  · refine x_bipush (v := -101) dX6_pin_8 rfl ?_
    exact x_iret dX6_pin_10 rfl

theorem c_X6_net (a1 : Int32) (a2 : Int32) (σ : xSt) : CON κi yX6_net m_X6_net true 2 shC [.ref 0, .int a1, .int a2] σ (f_X6_net a1 a2 σ) := by
  refine x_con (L := [some (.ref 0), some (.int a1), some (.int a2), none]) (by decide) rfl rfl rfl ?_
  unfold f_X6_net
  refine x_iload_n dX6_net_0 rfl rfl ?_
  refine x_callS1i dX6_net_1 lc_RX6_164 (c_X6_isNet _ _) rfl rfl (fun r1 s2 => ?_)
  refine x_if_ne 10 dX6_net_4 (by decide) (fun _ => ?_) (fun _ => ?_)
  · refine x_aload_n dX6_net_10 rfl rfl ?_
    refine x_getR dX6_net_11 lk_RX6_19 rfl rfl ?_
    refine x_iload_n dX6_net_14 rfl rfl ?_
    refine x_callV1i dX6_net_15 lc_RX6_167 (c_X0_columnsWith _ _) rfl rfl rfl rfl rfl (fun r3 s4 => ?_)
    refine x_istore_n dX6_net_18 rfl rfl rfl ?_
    refine x_iload_n dX6_net_19 rfl rfl ?_
    refine x_if_ne 26 dX6_net_20 (by decide) (fun _ => ?_) (fun _ => ?_)
    · refine x_iload_n dX6_net_26 rfl rfl ?_
      refine x_ite (fun c7 => ?_) (fun c7 => ?_)
      · refine x_tabI 60 dX6_net_27 c7 (by decide) (by decide) rfl (by decide) ?_
        refine x_aload_n dX6_net_60 rfl rfl ?_
        refine x_getR dX6_net_61 lk_RX6_19 rfl rfl ?_
        refine x_iload_n dX6_net_64 rfl rfl ?_
        refine x_callV1i dX6_net_65 lc_RX6_170 (c_X0_pinsOf _ _) rfl rfl rfl rfl rfl (fun r5 s6 => ?_)
        exact x_iret dX6_net_68 rfl
      refine x_ite (fun c10 => ?_) (fun c10 => ?_)
      · refine x_tabI 69 dX6_net_27 c10 (by decide) (by decide) rfl (by decide) ?_
        refine x_iload_n dX6_net_69 rfl rfl ?_
        refine x_callS1i dX6_net_70 lc_RX6_173 (c_X6_lowest _ _) rfl rfl (fun r8 s9 => ?_)
        exact x_iret dX6_net_73 rfl
      refine x_ite (fun c13 => ?_) (fun c13 => ?_)
      · refine x_tabI 74 dX6_net_27 c13 (by decide) (by decide) rfl (by decide) ?_
        refine x_iload_n dX6_net_74 rfl rfl ?_
        refine x_callS1i dX6_net_75 lc_RX6_176 (c_X6_highest _ _) rfl rfl (fun r11 s12 => ?_)
        exact x_iret dX6_net_78 rfl
      refine x_ite (fun c19 => ?_) (fun c19 => ?_)
      · refine x_tabI 79 dX6_net_27 c19 (by decide) (by decide) rfl (by decide) ?_
        refine x_aload_n dX6_net_79 rfl rfl ?_
        refine x_iload_n dX6_net_80 rfl rfl ?_
        refine x_callV1i dX6_net_81 lc_RX6_179 (c_X6_isSplit _ _) rfl rfl rfl rfl rfl (fun r14 s15 => ?_)
        refine x_jn 92 (fun (v16 : Int32) => [none, none, none, none]) (fun (v16 : Int32) => [.int v16]) (fun v16 s17 => ?_) (fun j18 hj18 => ?_)
        · exact x_iret dX6_net_92 rfl
        · refine x_if_eq 91 dX6_net_84 (by decide) (fun _ => ?_) (fun _ => ?_)
          · refine x_iconst (v := 0) dX6_net_91 rfl ?_
            exact x_sub (x_le_n (x_le_n (x_le_n (x_le_n x_le_e)))) (hj18 0 _)
          · refine x_iconst (v := 1) dX6_net_87 rfl ?_
            refine x_goto 92 dX6_net_88 (by decide) ?_
            exact x_sub (x_le_n (x_le_n (x_le_n (x_le_n x_le_e)))) (hj18 1 _)
      refine x_ite (fun c22 => ?_) (fun c22 => ?_)
      · refine x_tabI 93 dX6_net_27 c22 (by decide) (by decide) rfl (by decide) ?_
        refine x_aload_n dX6_net_93 rfl rfl ?_
        refine x_getR dX6_net_94 lk_RX6_26 rfl rfl ?_
        refine x_iload_n dX6_net_97 rfl rfl ?_
        refine x_callV1i dX6_net_98 lc_RX6_182 (c_X3_numberOf_5 _ _) rfl rfl rfl rfl rfl (fun r20 s21 => ?_)
        exact x_iret dX6_net_101 rfl
      have ec7 := x_ne 0 (by decide) c7
      have ec10 := x_ne 1 (by decide) c10
      have ec13 := x_ne 2 (by decide) c13
      have ec19 := x_ne 3 (by decide) c19
      have ec22 := x_ne 4 (by decide) c22
      refine x_tabO 102 dX6_net_27 (by omega) (by decide) ?_
      refine x_bipush (v := -102) dX6_net_102 rfl ?_
      exact x_iret dX6_net_104 rfl
    · refine x_bipush (v := -101) dX6_net_23 rfl ?_
      exact x_iret dX6_net_25 rfl
  · refine x_bipush (v := -101) dX6_net_7 rfl ?_
    exact x_iret dX6_net_9 rfl

theorem c_X6_isSegment (a1 : Int32) (σ : xSt) : CON κi yX6_isSegment m_X6_isSegment true 0 shC [.ref 0, .int a1] σ (f_X6_isSegment a1 σ) := by
  refine x_con (L := [some (.ref 0), some (.int a1)]) (by decide) rfl rfl rfl ?_
  unfold f_X6_isSegment
  refine x_iload_n dX6_isSegment_0 rfl rfl ?_
  refine x_jn 20 (fun (v4 : Int32) => [none, none]) (fun (v4 : Int32) => [.int v4]) (fun v4 s5 => ?_) (fun j6 hj6 => ?_)
  · exact x_zret dX6_isSegment_20 rfl
  · refine x_jn 19 (fun (v7 : Unit) => [none, none]) (fun (v7 : Unit) => []) (fun v7 s8 => ?_) (fun j9 hj9 => ?_)
    · refine x_iconst (v := 0) dX6_isSegment_19 rfl ?_
      exact x_sub (x_le_n (x_le_n x_le_e)) (hj6 0 _)
    · refine x_if_lt 19 dX6_isSegment_1 (by decide) (fun _ => ?_) (fun _ => ?_)
      · exact x_sub (x_le_n (x_le_n x_le_e)) (hj9 () _)
      · refine x_iload_n dX6_isSegment_4 rfl rfl ?_
        refine x_aload_n dX6_isSegment_5 rfl rfl ?_
        refine x_getR dX6_isSegment_6 lk_RX6_26 rfl rfl ?_
        refine x_getI dX6_isSegment_9 lk_RX6_132 rfl rfl ?_
        refine x_icmp_ge 19 dX6_isSegment_12 (by decide) (fun _ => ?_) (fun _ => ?_)
        · exact x_sub (x_le_n (x_le_n x_le_e)) (hj9 () _)
        · refine x_iconst (v := 1) dX6_isSegment_15 rfl ?_
          refine x_goto 20 dX6_isSegment_16 (by decide) ?_
          exact x_sub (x_le_n (x_le_n x_le_e)) (hj6 1 _)

theorem c_X6_segment (a1 : Int32) (a2 : Int32) (σ : xSt) : CON κi yX6_segment m_X6_segment true 1 shC [.ref 0, .int a1, .int a2] σ (f_X6_segment a1 a2 σ) := by
  refine x_con (L := [some (.ref 0), some (.int a1), some (.int a2)]) (by decide) rfl rfl rfl ?_
  unfold f_X6_segment
  refine x_aload_n dX6_segment_0 rfl rfl ?_
  refine x_iload_n dX6_segment_1 rfl rfl ?_
  refine x_callV1i dX6_segment_2 lc_RX6_185 (c_X6_isSegment _ _) rfl rfl rfl rfl rfl (fun r1 s2 => ?_)
  refine x_if_ne 11 dX6_segment_5 (by decide) (fun _ => ?_) (fun _ => ?_)
  · refine x_iload_n dX6_segment_11 rfl rfl ?_
    refine x_ite (fun c3 => ?_) (fun c3 => ?_)
    · refine x_tabI 56 dX6_segment_12 c3 (by decide) (by decide) rfl (by decide) ?_
      refine x_aload_n dX6_segment_56 rfl rfl ?_
      refine x_getR dX6_segment_57 lk_RX6_26 rfl rfl ?_
      refine x_getR dX6_segment_60 lk_RX6_188 rfl rfl ?_
      refine x_iload_n dX6_segment_63 rfl rfl ?_
      refine x_iald dX6_segment_64 rfl ?_
      exact x_iret dX6_segment_65 rfl
    refine x_ite (fun c4 => ?_) (fun c4 => ?_)
    · refine x_tabI 66 dX6_segment_12 c4 (by decide) (by decide) rfl (by decide) ?_
      refine x_aload_n dX6_segment_66 rfl rfl ?_
      refine x_getR dX6_segment_67 lk_RX6_26 rfl rfl ?_
      refine x_getR dX6_segment_70 lk_RX6_192 rfl rfl ?_
      refine x_iload_n dX6_segment_73 rfl rfl ?_
      refine x_iald dX6_segment_74 rfl ?_
      exact x_iret dX6_segment_75 rfl
    refine x_ite (fun c5 => ?_) (fun c5 => ?_)
    · refine x_tabI 76 dX6_segment_12 c5 (by decide) (by decide) rfl (by decide) ?_
      refine x_aload_n dX6_segment_76 rfl rfl ?_
      refine x_getR dX6_segment_77 lk_RX6_26 rfl rfl ?_
      refine x_getR dX6_segment_80 lk_RX6_195 rfl rfl ?_
      refine x_iload_n dX6_segment_83 rfl rfl ?_
      refine x_iald dX6_segment_84 rfl ?_
      exact x_iret dX6_segment_85 rfl
    refine x_ite (fun c6 => ?_) (fun c6 => ?_)
    · refine x_tabI 86 dX6_segment_12 c6 (by decide) (by decide) rfl (by decide) ?_
      refine x_aload_n dX6_segment_86 rfl rfl ?_
      refine x_getR dX6_segment_87 lk_RX6_50 rfl rfl ?_
      refine x_getR dX6_segment_90 lk_RX6_198 rfl rfl ?_
      refine x_iload_n dX6_segment_93 rfl rfl ?_
      refine x_iald dX6_segment_94 rfl ?_
      exact x_iret dX6_segment_95 rfl
    refine x_ite (fun c9 => ?_) (fun c9 => ?_)
    · refine x_tabI 96 dX6_segment_12 c9 (by decide) (by decide) rfl (by decide) ?_
      refine x_aload_n dX6_segment_96 rfl rfl ?_
      refine x_getR dX6_segment_97 lk_RX6_26 rfl rfl ?_
      refine x_getR dX6_segment_100 lk_RX6_201 rfl rfl ?_
      refine x_iload_n dX6_segment_103 rfl rfl ?_
      refine x_iald dX6_segment_104 rfl ?_
      refine x_callS1i dX6_segment_105 lc_RX6_204 (c_J6_bitCount_0f7a4 _ _) rfl rfl (fun r7 s8 => ?_)
      exact x_iret dX6_segment_108 rfl
    refine x_ite (fun c12 => ?_) (fun c12 => ?_)
    · refine x_tabI 109 dX6_segment_12 c12 (by decide) (by decide) rfl (by decide) ?_
      refine x_aload_n dX6_segment_109 rfl rfl ?_
      refine x_getR dX6_segment_110 lk_RX6_26 rfl rfl ?_
      refine x_getR dX6_segment_113 lk_RX6_209 rfl rfl ?_
      refine x_iload_n dX6_segment_116 rfl rfl ?_
      refine x_iald dX6_segment_117 rfl ?_
      refine x_callS1i dX6_segment_118 lc_RX6_204 (c_J6_bitCount_0f7a4 _ _) rfl rfl (fun r10 s11 => ?_)
      exact x_iret dX6_segment_121 rfl
    refine x_ite (fun c13 => ?_) (fun c13 => ?_)
    · refine x_tabI 122 dX6_segment_12 c13 (by decide) (by decide) rfl (by decide) ?_
      refine x_aload_n dX6_segment_122 rfl rfl ?_
      refine x_getR dX6_segment_123 lk_RX6_26 rfl rfl ?_
      refine x_getR dX6_segment_126 lk_RX6_212 rfl rfl ?_
      refine x_iload_n dX6_segment_129 rfl rfl ?_
      refine x_iald dX6_segment_130 rfl ?_
      exact x_iret dX6_segment_131 rfl
    have ec3 := x_ne 0 (by decide) c3
    have ec4 := x_ne 1 (by decide) c4
    have ec5 := x_ne 2 (by decide) c5
    have ec6 := x_ne 3 (by decide) c6
    have ec9 := x_ne 4 (by decide) c9
    have ec12 := x_ne 5 (by decide) c12
    have ec13 := x_ne 6 (by decide) c13
    refine x_tabO 132 dX6_segment_12 (by omega) (by decide) ?_
    refine x_bipush (v := -102) dX6_segment_132 rfl ?_
    exact x_iret dX6_segment_134 rfl
  · refine x_bipush (v := -101) dX6_segment_8 rfl ?_
    exact x_iret dX6_segment_10 rfl

theorem c_X6_above (a1 : Int32) (a2 : Int32) (σ : xSt) : CON κi yX6_above m_X6_above true 1 shC [.ref 0, .int a1, .int a2] σ (f_X6_above a1 a2 σ) := by
  refine x_con (L := [some (.ref 0), some (.int a1), some (.int a2)]) (by decide) rfl rfl rfl ?_
  unfold f_X6_above
  refine x_aload_n dX6_above_0 rfl rfl ?_
  refine x_iload_n dX6_above_1 rfl rfl ?_
  refine x_callV1i dX6_above_2 lc_RX6_185 (c_X6_isSegment _ _) rfl rfl rfl rfl rfl (fun r1 s2 => ?_)
  refine x_jn 16 (fun (v10 : Unit) => [none, none, none]) (fun (v10 : Unit) => []) (fun v10 s11 => ?_) (fun j12 hj12 => ?_)
  · refine x_bipush (v := -101) dX6_above_16 rfl ?_
    exact x_iret dX6_above_18 rfl
  · refine x_if_eq 16 dX6_above_5 (by decide) (fun _ => ?_) (fun _ => ?_)
    · exact x_sub (x_le_n (x_le_n (x_le_n x_le_e))) (hj12 () _)
    · refine x_aload_n dX6_above_8 rfl rfl ?_
      refine x_iload_n dX6_above_9 rfl rfl ?_
      refine x_callV1i dX6_above_10 lc_RX6_185 (c_X6_isSegment _ _) rfl rfl rfl rfl rfl (fun r13 s14 => ?_)
      refine x_if_ne 19 dX6_above_13 (by decide) (fun _ => ?_) (fun _ => ?_)
      · refine x_aload_n dX6_above_19 rfl rfl ?_
        refine x_getR dX6_above_20 lk_RX6_26 rfl rfl ?_
        refine x_iload_n dX6_above_23 rfl rfl ?_
        refine x_iload_n dX6_above_24 rfl rfl ?_
        refine x_callV2i dX6_above_25 lc_RX6_215 (c_X3_isAbove_5 _ _ _) rfl rfl rfl rfl rfl (fun r15 s16 => ?_)
        refine x_jn 36 (fun (v17 : Int32) => [none, none, none]) (fun (v17 : Int32) => [.int v17]) (fun v17 s18 => ?_) (fun j19 hj19 => ?_)
        · exact x_iret dX6_above_36 rfl
        · refine x_if_eq 35 dX6_above_28 (by decide) (fun _ => ?_) (fun _ => ?_)
          · refine x_iconst (v := 0) dX6_above_35 rfl ?_
            exact x_sub (x_le_n (x_le_n (x_le_n x_le_e))) (hj19 0 _)
          · refine x_iconst (v := 1) dX6_above_31 rfl ?_
            refine x_goto 36 dX6_above_32 (by decide) ?_
            exact x_sub (x_le_n (x_le_n (x_le_n x_le_e))) (hj19 1 _)
      · exact x_sub (x_le_n (x_le_n (x_le_n x_le_e))) (hj12 () _)

theorem c_X6_may (a1 : Int32) (a2 : Int32) (σ : xSt) : CON κi yX6_may m_X6_may true 2 shC [.ref 0, .int a1, .int a2] σ (f_X6_may a1 a2 σ) := by
  refine x_con (L := [some (.ref 0), some (.int a1), some (.int a2), none]) (by decide) rfl rfl rfl ?_
  unfold f_X6_may
  refine x_aload_n dX6_may_0 rfl rfl ?_
  refine x_iload_n dX6_may_1 rfl rfl ?_
  refine x_callV1i dX6_may_2 lc_RX6_185 (c_X6_isSegment _ _) rfl rfl rfl rfl rfl (fun r1 s2 => ?_)
  refine x_jn 16 (fun (v41 : Unit) => [none, none, none, none]) (fun (v41 : Unit) => []) (fun v41 s42 => ?_) (fun j43 hj43 => ?_)
  · refine x_bipush (v := -101) dX6_may_16 rfl ?_
    exact x_iret dX6_may_18 rfl
  · refine x_if_eq 16 dX6_may_5 (by decide) (fun _ => ?_) (fun _ => ?_)
    · exact x_sub (x_le_n (x_le_n (x_le_n (x_le_n x_le_e)))) (hj43 () _)
    · refine x_aload_n dX6_may_8 rfl rfl ?_
      refine x_iload_n dX6_may_9 rfl rfl ?_
      refine x_callV1i dX6_may_10 lc_RX6_185 (c_X6_isSegment _ _) rfl rfl rfl rfl rfl (fun r44 s45 => ?_)
      refine x_if_ne 19 dX6_may_13 (by decide) (fun _ => ?_) (fun _ => ?_)
      · refine x_aload_n dX6_may_19 rfl rfl ?_
        refine x_getR dX6_may_20 lk_RX6_26 rfl rfl ?_
        refine x_iload_n dX6_may_23 rfl rfl ?_
        refine x_iload_n dX6_may_24 rfl rfl ?_
        refine x_callV2i dX6_may_25 lc_RX6_219 (c_X3_steps_5 _ _ _) rfl rfl rfl rfl rfl (fun r46 s47 => ?_)
        refine x_iconst (v := -1) dX6_may_28 rfl ?_
        refine x_jn 50 (fun (v55 : Int32) => [some (.ref 0), some (.int a1), some (.int a2), none]) (fun (v55 : Int32) => [.int v55]) (fun v55 s56 => ?_) (fun j57 hj57 => ?_)
        · refine x_istore_n dX6_may_50 rfl rfl rfl ?_
          refine x_iload_n dX6_may_51 rfl rfl ?_
          refine x_jn 72 (fun (v65 : Int32) => [none, none, none, none]) (fun (v65 : Int32) => [.int v65]) (fun v65 s66 => ?_) (fun j67 hj67 => ?_)
          · exact x_iret dX6_may_72 rfl
          · refine x_jn 71 (fun (v70 : Unit) => [none, none, none, none]) (fun (v70 : Unit) => []) (fun v70 s71 => ?_) (fun j72 hj72 => ?_)
            · refine x_iconst (v := 0) dX6_may_71 rfl ?_
              exact x_sub (x_le_n (x_le_n (x_le_n (x_le_n x_le_e)))) (hj67 0 _)
            · refine x_if_eq 71 dX6_may_52 (by decide) (fun _ => ?_) (fun _ => ?_)
              · exact x_sub (x_le_n (x_le_n (x_le_n (x_le_n x_le_e)))) (hj72 () _)
              · refine x_aload_n dX6_may_55 rfl rfl ?_
                refine x_getR dX6_may_56 lk_RX6_26 rfl rfl ?_
                refine x_iload_n dX6_may_59 rfl rfl ?_
                refine x_iload_n dX6_may_60 rfl rfl ?_
                refine x_callV2i dX6_may_61 lc_RX6_222 (c_X3_overlap_5 _ _ _) rfl rfl rfl rfl rfl (fun r73 s74 => ?_)
                refine x_if_ne 71 dX6_may_64 (by decide) (fun _ => ?_) (fun _ => ?_)
                · exact x_sub (x_le_n (x_le_n (x_le_n (x_le_n x_le_e)))) (hj72 () _)
                · refine x_iconst (v := 1) dX6_may_67 rfl ?_
                  refine x_goto 72 dX6_may_68 (by decide) ?_
                  exact x_sub (x_le_n (x_le_n (x_le_n (x_le_n x_le_e)))) (hj67 1 _)
        · refine x_jn 49 (fun (v77 : Unit) => [some (.ref 0), some (.int a1), some (.int a2), none]) (fun (v77 : Unit) => []) (fun v77 s78 => ?_) (fun j79 hj79 => ?_)
          · refine x_iconst (v := 0) dX6_may_49 rfl ?_
            exact x_sub (x_le_s rfl (x_le_s rfl (x_le_s rfl (x_le_n x_le_e)))) (hj57 0 _)
          · refine x_icmp_ne 49 dX6_may_29 (by decide) (fun _ => ?_) (fun _ => ?_)
            · exact x_sub (x_le_s rfl (x_le_s rfl (x_le_s rfl (x_le_n x_le_e)))) (hj79 () _)
            · refine x_aload_n dX6_may_32 rfl rfl ?_
              refine x_getR dX6_may_33 lk_RX6_26 rfl rfl ?_
              refine x_iload_n dX6_may_36 rfl rfl ?_
              refine x_iload_n dX6_may_37 rfl rfl ?_
              refine x_callV2i dX6_may_38 lc_RX6_219 (c_X3_steps_5 _ _ _) rfl rfl rfl rfl rfl (fun r80 s81 => ?_)
              refine x_iconst (v := -1) dX6_may_41 rfl ?_
              refine x_icmp_ne 49 dX6_may_42 (by decide) (fun _ => ?_) (fun _ => ?_)
              · exact x_sub (x_le_s rfl (x_le_s rfl (x_le_s rfl (x_le_n x_le_e)))) (hj79 () _)
              · refine x_iconst (v := 1) dX6_may_45 rfl ?_
                refine x_goto 50 dX6_may_46 (by decide) ?_
                exact x_sub (x_le_s rfl (x_le_s rfl (x_le_s rfl (x_le_n x_le_e)))) (hj57 1 _)
      · exact x_sub (x_le_n (x_le_n (x_le_n (x_le_n x_le_e)))) (hj43 () _)

theorem c_X6_ring (a1 : Int32) (σ : xSt) : CON κi yX6_ring m_X6_ring true 0 shC [.ref 0, .int a1] σ (f_X6_ring a1 σ) := by
  refine x_con (L := [some (.ref 0), some (.int a1)]) (by decide) rfl rfl rfl ?_
  unfold f_X6_ring
  refine x_iload_n dX6_ring_0 rfl rfl ?_
  refine x_jn 15 (fun (v1 : Unit) => [none, none]) (fun (v1 : Unit) => []) (fun v1 s2 => ?_) (fun j3 hj3 => ?_)
  · refine x_bipush (v := -101) dX6_ring_15 rfl ?_
    exact x_iret dX6_ring_17 rfl
  · refine x_if_lt 15 dX6_ring_1 (by decide) (fun _ => ?_) (fun _ => ?_)
    · exact x_sub (x_le_n (x_le_n x_le_e)) (hj3 () _)
    · refine x_iload_n dX6_ring_4 rfl rfl ?_
      refine x_aload_n dX6_ring_5 rfl rfl ?_
      refine x_getR dX6_ring_6 lk_RX6_36 rfl rfl ?_
      refine x_getI dX6_ring_9 lk_RX6_141 rfl rfl ?_
      refine x_icmp_lt 18 dX6_ring_12 (by decide) (fun _ => ?_) (fun _ => ?_)
      · refine x_aload_n dX6_ring_18 rfl rfl ?_
        refine x_getR dX6_ring_19 lk_RX6_36 rfl rfl ?_
        refine x_getR dX6_ring_22 lk_RX6_225 rfl rfl ?_
        refine x_iload_n dX6_ring_25 rfl rfl ?_
        refine x_iald dX6_ring_26 rfl ?_
        exact x_iret dX6_ring_27 rfl
      · exact x_sub (x_le_n (x_le_n x_le_e)) (hj3 () _)

theorem c_X6_zone (a1 : Int32) (σ : xSt) : CON κi yX6_zone m_X6_zone true 0 shC [.ref 0, .int a1] σ (f_X6_zone a1 σ) := by
  refine x_con (L := [some (.ref 0), some (.int a1)]) (by decide) rfl rfl rfl ?_
  unfold f_X6_zone
  refine x_iload_n dX6_zone_0 rfl rfl ?_
  refine x_jn 15 (fun (v1 : Unit) => [none, none]) (fun (v1 : Unit) => []) (fun v1 s2 => ?_) (fun j3 hj3 => ?_)
  · refine x_bipush (v := -101) dX6_zone_15 rfl ?_
    exact x_iret dX6_zone_17 rfl
  · refine x_if_lt 15 dX6_zone_1 (by decide) (fun _ => ?_) (fun _ => ?_)
    · exact x_sub (x_le_n (x_le_n x_le_e)) (hj3 () _)
    · refine x_iload_n dX6_zone_4 rfl rfl ?_
      refine x_aload_n dX6_zone_5 rfl rfl ?_
      refine x_getR dX6_zone_6 lk_RX6_43 rfl rfl ?_
      refine x_getI dX6_zone_9 lk_RX6_145 rfl rfl ?_
      refine x_icmp_lt 18 dX6_zone_12 (by decide) (fun _ => ?_) (fun _ => ?_)
      · refine x_aload_n dX6_zone_18 rfl rfl ?_
        refine x_getR dX6_zone_19 lk_RX6_43 rfl rfl ?_
        refine x_getR dX6_zone_22 lk_RX6_228 rfl rfl ?_
        refine x_iload_n dX6_zone_25 rfl rfl ?_
        refine x_iald dX6_zone_26 rfl ?_
        exact x_iret dX6_zone_27 rfl
      · exact x_sub (x_le_n (x_le_n x_le_e)) (hj3 () _)

theorem c_X6_put (a1 : Int32) (a2 : Int32) (a3 : Int32) (σ : xSt) : CON κi yX6_put m_X6_put true 5 shC [.ref 0, .int a1, .int a2, .int a3] σ (f_X6_put a1 a2 a3 σ) := by
  refine x_con (L := [some (.ref 0), some (.int a1), some (.int a2), some (.int a3), none]) (by decide) rfl rfl rfl ?_
  unfold f_X6_put
  refine x_aload_n dX6_put_0 rfl rfl ?_
  refine x_iload_n dX6_put_1 rfl rfl ?_
  refine x_callV1i dX6_put_2 lc_RX6_154 (c_X6_isColumn _ _) rfl rfl rfl rfl rfl (fun r1 s2 => ?_)
  refine x_if_ne 11 dX6_put_5 (by decide) (fun _ => ?_) (fun _ => ?_)
  · refine x_iload_n dX6_put_11 rfl rfl ?_
    refine x_callS1i dX6_put_12 lc_RX6_157 (c_X6_isSide _ _) rfl rfl (fun r3 s4 => ?_)
    refine x_jn 30 (fun (v18 : Unit) => [none, none, none, none, none]) (fun (v18 : Unit) => []) (fun v18 s19 => ?_) (fun j20 hj20 => ?_)
    · refine x_bipush (v := -102) dX6_put_30 rfl ?_
      exact x_iret dX6_put_32 rfl
    · refine x_if_eq 30 dX6_put_15 (by decide) (fun _ => ?_) (fun _ => ?_)
      · exact x_sub (x_le_n (x_le_n (x_le_n (x_le_n (x_le_n x_le_e))))) (hj20 () _)
      · refine x_iload_n dX6_put_18 rfl rfl ?_
        refine x_iconst (v := -1) dX6_put_19 rfl ?_
        refine x_jn 33 (fun (v23 : Unit) => [some (.ref 0), some (.int a1), some (.int a2), some (.int a3), none]) (fun (v23 : Unit) => []) (fun v23 s24 => ?_) (fun j25 hj25 => ?_)
        · refine x_aload_n dX6_put_33 rfl rfl ?_
          refine x_getR dX6_put_34 lk_RX6_19 rfl rfl ?_
          refine x_iload_n dX6_put_37 rfl rfl ?_
          refine x_iload_n dX6_put_38 rfl rfl ?_
          refine x_callV2i dX6_put_39 lc_RX6_160 (c_X0_netOf _ _ _) rfl rfl rfl rfl rfl (fun r26 s27 => ?_)
          refine x_istore dX6_put_42 rfl rfl ?_
          refine x_aload_n dX6_put_44 rfl rfl ?_
          refine x_getR dX6_put_45 lk_RX6_19 rfl rfl ?_
          refine x_iload_n dX6_put_48 rfl rfl ?_
          refine x_iload_n dX6_put_49 rfl rfl ?_
          refine x_iload_n dX6_put_50 rfl rfl ?_
          refine x_callV3v dX6_put_51 lc_RX6_79 (c_X0_change _ _ _ _) rfl rfl rfl rfl rfl (fun r28 s29 => ?_)
          refine x_aload_n dX6_put_54 rfl rfl ?_
          refine x_callV0v dX6_put_55 lc_RX6_86 (c_X6_derive _) rfl rfl rfl rfl rfl (fun r30 s31 => ?_)
          refine x_iload dX6_put_58 rfl ?_
          exact x_iret dX6_put_60 rfl
        · refine x_icmp_eq 33 dX6_put_20 (by decide) (fun _ => ?_) (fun _ => ?_)
          · exact x_sub (x_le_s rfl (x_le_s rfl (x_le_s rfl (x_le_s rfl (x_le_n x_le_e))))) (hj25 () _)
          · refine x_iload_n dX6_put_23 rfl rfl ?_
            refine x_callS1i dX6_put_24 lc_RX6_164 (c_X6_isNet _ _) rfl rfl (fun r32 s33 => ?_)
            refine x_if_ne 33 dX6_put_27 (by decide) (fun _ => ?_) (fun _ => ?_)
            · exact x_sub (x_le_s rfl (x_le_s rfl (x_le_s rfl (x_le_s rfl (x_le_n x_le_e))))) (hj25 () _)
            · exact x_sub (x_le_n (x_le_n (x_le_n (x_le_n (x_le_n x_le_e))))) (hj20 () _)
  · refine x_bipush (v := -101) dX6_put_8 rfl ?_
    exact x_iret dX6_put_10 rfl

theorem c_X6_set (a1 : Int32) (a2 : Int32) (σ : xSt) : CON κi yX6_set m_X6_set true 1 shC [.ref 0, .int a1, .int a2] σ (f_X6_set a1 a2 σ) := by
  refine x_con (L := [some (.ref 0), some (.int a1), some (.int a2), none]) (by decide) rfl rfl rfl ?_
  unfold f_X6_set
  refine x_aload_n dX6_set_0 rfl rfl ?_
  refine x_iload_n dX6_set_1 rfl rfl ?_
  refine x_callV1i dX6_set_2 lc_RX6_185 (c_X6_isSegment _ _) rfl rfl rfl rfl rfl (fun r1 s2 => ?_)
  refine x_if_ne 11 dX6_set_5 (by decide) (fun _ => ?_) (fun _ => ?_)
  · refine x_iload_n dX6_set_11 rfl rfl ?_
    refine x_iconst (v := -1) dX6_set_12 rfl ?_
    refine x_jn 22 (fun (v5 : Unit) => [none, none, none, none]) (fun (v5 : Unit) => []) (fun v5 s6 => ?_) (fun j7 hj7 => ?_)
    · refine x_bipush (v := -102) dX6_set_22 rfl ?_
      exact x_iret dX6_set_24 rfl
    · refine x_icmp_lt 22 dX6_set_13 (by decide) (fun _ => ?_) (fun _ => ?_)
      · exact x_sub (x_le_n (x_le_n (x_le_n (x_le_n x_le_e)))) (hj7 () _)
      · refine x_iload_n dX6_set_16 rfl rfl ?_
        refine x_bipush (v := 14) dX6_set_17 rfl ?_
        refine x_icmp_lt 25 dX6_set_19 (by decide) (fun _ => ?_) (fun _ => ?_)
        · refine x_aload_n dX6_set_25 rfl rfl ?_
          refine x_getR dX6_set_26 lk_RX6_50 rfl rfl ?_
          refine x_getR dX6_set_29 lk_RX6_198 rfl rfl ?_
          refine x_iload_n dX6_set_32 rfl rfl ?_
          refine x_iald dX6_set_33 rfl ?_
          refine x_istore_nB dX6_set_34 rfl rfl rfl (fun x8 => ?_)
          refine x_aload_n dX6_set_35 rfl rfl ?_
          refine x_getR dX6_set_36 lk_RX6_50 rfl rfl ?_
          refine x_getR dX6_set_39 lk_RX6_198 rfl rfl ?_
          refine x_iload_n dX6_set_42 rfl rfl ?_
          refine x_iload_n dX6_set_43 rfl rfl ?_
          refine x_iastB dX6_set_44 rfl (fun s9 => ?_)
          refine x_iload_n dX6_set_45 rfl rfl ?_
          exact x_iret dX6_set_46 rfl
        · exact x_sub (x_le_n (x_le_n (x_le_n (x_le_n x_le_e)))) (hj7 () _)
  · refine x_bipush (v := -101) dX6_set_8 rfl ?_
    exact x_iret dX6_set_10 rfl

theorem c_X6_cell (a1 : Int32) (a2 : Int32) (a3 : Int32) (σ : xSt) : CON κi yX6_cell m_X6_cell true 3 shC [.ref 0, .int a1, .int a2, .int a3] σ (f_X6_cell a1 a2 a3 σ) := by
  refine x_con (L := [some (.ref 0), some (.int a1), some (.int a2), some (.int a3)]) (by decide) rfl rfl rfl ?_
  unfold f_X6_cell
  refine x_iload_n dX6_cell_0 rfl rfl ?_
  refine x_jn 23 (fun (v15 : Unit) => [none, none, none, none]) (fun (v15 : Unit) => []) (fun v15 s16 => ?_) (fun j17 hj17 => ?_)
  · refine x_bipush (v := -101) dX6_cell_23 rfl ?_
    exact x_iret dX6_cell_25 rfl
  · refine x_if_lt 23 dX6_cell_1 (by decide) (fun _ => ?_) (fun _ => ?_)
    · exact x_sub (x_le_n (x_le_n (x_le_n (x_le_n x_le_e)))) (hj17 () _)
    · refine x_iload_n dX6_cell_4 rfl rfl ?_
      refine x_aload_n dX6_cell_5 rfl rfl ?_
      refine x_getR dX6_cell_6 lk_RX6_50 rfl rfl ?_
      refine x_callV0i dX6_cell_9 lc_RX6_122 (c_X1_depth _) rfl rfl rfl rfl rfl (fun r18 s19 => ?_)
      refine x_icmp_ge 23 dX6_cell_12 (by decide) (fun _ => ?_) (fun _ => ?_)
      · exact x_sub (x_le_n (x_le_n (x_le_n (x_le_n x_le_e)))) (hj17 () _)
      · refine x_aload_n dX6_cell_15 rfl rfl ?_
        refine x_iload_n dX6_cell_16 rfl rfl ?_
        refine x_callV1i dX6_cell_17 lc_RX6_154 (c_X6_isColumn _ _) rfl rfl rfl rfl rfl (fun r20 s21 => ?_)
        refine x_if_ne 26 dX6_cell_20 (by decide) (fun _ => ?_) (fun _ => ?_)
        · refine x_iload_n dX6_cell_26 rfl rfl ?_
          refine x_ite (fun c26 => ?_) (fun c26 => ?_)
          · refine x_look (off := 25) 52 dX6_cell_27 (by decide) (by rw [c26]; first | done | rfl) (by decide) ?_
            refine x_aload_n dX6_cell_52 rfl rfl ?_
            refine x_getR dX6_cell_53 lk_RX6_50 rfl rfl ?_
            refine x_aload_n dX6_cell_56 rfl rfl ?_
            refine x_getR dX6_cell_57 lk_RX6_26 rfl rfl ?_
            refine x_iload_n dX6_cell_60 rfl rfl ?_
            refine x_iload_n dX6_cell_61 rfl rfl ?_
            refine x_callV3i dX6_cell_62 lc_RX6_125 (c_X1_horizontalNets _ _ _) rfl rfl rfl rfl rfl (fun r22 s23 => ?_)
            refine x_callS1i dX6_cell_65 lc_RX6_173 (c_X6_lowest _ _) rfl rfl (fun r24 s25 => ?_)
            exact x_iret dX6_cell_68 rfl
          refine x_ite (fun c31 => ?_) (fun c31 => ?_)
          · refine x_look (off := 42) 69 dX6_cell_27 (by decide) (by rw [c31]; first | done | rfl) (by decide) ?_
            refine x_aload_n dX6_cell_69 rfl rfl ?_
            refine x_getR dX6_cell_70 lk_RX6_50 rfl rfl ?_
            refine x_aload_n dX6_cell_73 rfl rfl ?_
            refine x_getR dX6_cell_74 lk_RX6_19 rfl rfl ?_
            refine x_aload_n dX6_cell_77 rfl rfl ?_
            refine x_getR dX6_cell_78 lk_RX6_26 rfl rfl ?_
            refine x_iload_n dX6_cell_81 rfl rfl ?_
            refine x_iload_n dX6_cell_82 rfl rfl ?_
            refine x_callV4i dX6_cell_83 lc_RX6_256 (c_X1_verticalNets _ _ _) rfl rfl rfl rfl rfl (fun r27 s28 => ?_)
            refine x_callS1i dX6_cell_86 lc_RX6_173 (c_X6_lowest _ _) rfl rfl (fun r29 s30 => ?_)
            exact x_iret dX6_cell_89 rfl
          have ec26 := x_ne 0 (by decide) c26
          have ec31 := x_ne 1 (by decide) c31
          refine x_look (off := 63) 90 dX6_cell_27 (by decide) (by simp [Op.lookupswitch.offset, Ne.symm ec26, Ne.symm ec31]) (by decide) ?_
          refine x_bipush (v := -102) dX6_cell_90 rfl ?_
          exact x_iret dX6_cell_92 rfl
        · exact x_sub (x_le_n (x_le_n (x_le_n (x_le_n x_le_e)))) (hj17 () _)

theorem c_X6_count (a1 : Int32) (σ : xSt) : CON κi yX6_count m_X6_count true 3 shC [.ref 0, .int a1] σ (f_X6_count a1 σ) := by
  refine x_con (L := [some (.ref 0), some (.int a1)]) (by decide) rfl rfl rfl ?_
  unfold f_X6_count
  refine x_iload_n dX6_count_0 rfl rfl ?_
  refine x_ite (fun c1 => ?_) (fun c1 => ?_)
  · refine x_tabI 52 dX6_count_1 c1 (by decide) (by decide) rfl (by decide) ?_
    refine x_aload_n dX6_count_52 rfl rfl ?_
    refine x_getR dX6_count_53 lk_RX6_19 rfl rfl ?_
    refine x_getI dX6_count_56 lk_RX6_72 rfl rfl ?_
    exact x_iret dX6_count_59 rfl
  refine x_ite (fun c4 => ?_) (fun c4 => ?_)
  · refine x_tabI 60 dX6_count_1 c4 (by decide) (by decide) rfl (by decide) ?_
    refine x_aload_n dX6_count_60 rfl rfl ?_
    refine x_getR dX6_count_61 lk_RX6_19 rfl rfl ?_
    refine x_callV0i dX6_count_64 lc_RX6_260 (c_X0_pinsOfNets _) rfl rfl rfl rfl rfl (fun r2 s3 => ?_)
    exact x_iret dX6_count_67 rfl
  refine x_ite (fun c7 => ?_) (fun c7 => ?_)
  · refine x_tabI 68 dX6_count_1 c7 (by decide) (by decide) rfl (by decide) ?_
    refine x_aload_n dX6_count_68 rfl rfl ?_
    refine x_getR dX6_count_69 lk_RX6_19 rfl rfl ?_
    refine x_callV0i dX6_count_72 lc_RX6_263 (c_X0_nets _) rfl rfl rfl rfl rfl (fun r5 s6 => ?_)
    exact x_iret dX6_count_75 rfl
  refine x_ite (fun c10 => ?_) (fun c10 => ?_)
  · refine x_tabI 76 dX6_count_1 c10 (by decide) (by decide) rfl (by decide) ?_
    refine x_aload_n dX6_count_76 rfl rfl ?_
    refine x_getI dX6_count_77 lk_RX6_83 rfl rfl ?_
    refine x_callS1i dX6_count_80 lc_RX6_204 (c_J6_bitCount_0f7a4 _ _) rfl rfl (fun r8 s9 => ?_)
    exact x_iret dX6_count_83 rfl
  refine x_ite (fun c11 => ?_) (fun c11 => ?_)
  · refine x_tabI 84 dX6_count_1 c11 (by decide) (by decide) rfl (by decide) ?_
    refine x_aload_n dX6_count_84 rfl rfl ?_
    refine x_getR dX6_count_85 lk_RX6_26 rfl rfl ?_
    refine x_getI dX6_count_88 lk_RX6_132 rfl rfl ?_
    exact x_iret dX6_count_91 rfl
  refine x_ite (fun c14 => ?_) (fun c14 => ?_)
  · refine x_tabI 92 dX6_count_1 c14 (by decide) (by decide) rfl (by decide) ?_
    refine x_aload_n dX6_count_92 rfl rfl ?_
    refine x_getR dX6_count_93 lk_RX6_50 rfl rfl ?_
    refine x_callV0i dX6_count_96 lc_RX6_231 (c_X1_placed _) rfl rfl rfl rfl rfl (fun r12 s13 => ?_)
    exact x_iret dX6_count_99 rfl
  refine x_ite (fun c15 => ?_) (fun c15 => ?_)
  · refine x_tabI 100 dX6_count_1 c15 (by decide) (by decide) rfl (by decide) ?_
    refine x_aload_n dX6_count_100 rfl rfl ?_
    refine x_getR dX6_count_101 lk_RX6_10 rfl rfl ?_
    refine x_getI dX6_count_104 lk_RX6_54 rfl rfl ?_
    exact x_iret dX6_count_107 rfl
  refine x_ite (fun c16 => ?_) (fun c16 => ?_)
  · refine x_tabI 108 dX6_count_1 c16 (by decide) (by decide) rfl (by decide) ?_
    refine x_aload_n dX6_count_108 rfl rfl ?_
    refine x_getI dX6_count_109 lk_RX6_89 rfl rfl ?_
    exact x_iret dX6_count_112 rfl
  refine x_ite (fun c17 => ?_) (fun c17 => ?_)
  · refine x_tabI 113 dX6_count_1 c17 (by decide) (by decide) rfl (by decide) ?_
    refine x_aload_n dX6_count_113 rfl rfl ?_
    refine x_getI dX6_count_114 lk_RX6_244 rfl rfl ?_
    exact x_iret dX6_count_117 rfl
  have ec1 := x_ne 0 (by decide) c1
  have ec4 := x_ne 1 (by decide) c4
  have ec7 := x_ne 2 (by decide) c7
  have ec10 := x_ne 3 (by decide) c10
  have ec11 := x_ne 4 (by decide) c11
  have ec14 := x_ne 5 (by decide) c14
  have ec15 := x_ne 6 (by decide) c15
  have ec16 := x_ne 7 (by decide) c16
  have ec17 := x_ne 8 (by decide) c17
  refine x_tabO 118 dX6_count_1 (by omega) (by decide) ?_
  refine x_bipush (v := -102) dX6_count_118 rfl ?_
  exact x_iret dX6_count_120 rfl

theorem c_X6_mix (a0 : Int64) (a2 : Int32) (σ : xSt) : CON κl yX6_mix m_X6_mix true 0 shC [.long a0, .int a2] σ (f_X6_mix a0 a2 σ) := by
  refine x_con (L := [some (.long a0), none, some (.int a2)]) (by decide) rfl rfl rfl ?_
  unfold f_X6_mix
  refine x_ldc2 (v := 31) dX6_mix_0 (xT_of 743 (by decide +kernel) (by decide +kernel)) ?_
  refine x_lload_n dX6_mix_3 rfl rfl ?_
  refine x_lmul dX6_mix_4 ?_
  refine x_iload_n dX6_mix_5 rfl rfl ?_
  refine x_i2l dX6_mix_6 ?_
  refine x_ladd dX6_mix_7 ?_
  exact x_lret dX6_mix_8 rfl

theorem t_X6_digestChannel_5 (k : Int64 → xSt → Option (Int64 × xSt)) (hk : ∀ (w3 : Int64) (σ : xSt), XP κl true m_X6_digestChannel 5 shC 29 [some (.ref 0), none, none, some (.long w3), none, none] [] σ (k w3 σ)) : ∀ (n : Nat) (w3 : Int64) (w5 : Int32) (σ : xSt), XP κl true m_X6_digestChannel 5 shC 5 [some (.ref 0), none, none, some (.long w3), none, some (.int w5)] [] σ (f_X6_digestChannel_5 k n w3 w5 σ) := by
  intro n
  induction n with
  | zero => intro w3 w5 σ; exact x_none
  | succ n ih =>
    intro w3 w5 σ
    rw [f_X6_digestChannel_5]
    refine x_iload dX6_digestChannel_5 rfl ?_
    refine x_bipush (v := 9) dX6_digestChannel_7 rfl ?_
    refine x_icmp_gt 29 dX6_digestChannel_9 (by decide) (fun _ => ?_) (fun _ => ?_)
    · exact x_sub (x_le_s rfl (x_le_n (x_le_n (x_le_s rfl (x_le_n (x_le_n x_le_e)))))) (hk _ _)
    · refine x_lload_n dX6_digestChannel_12 rfl rfl ?_
      refine x_aload_n dX6_digestChannel_13 rfl rfl ?_
      refine x_iload dX6_digestChannel_14 rfl ?_
      refine x_callV1i dX6_digestChannel_16 lc_RX6_289 (c_X6_about _ _) rfl rfl rfl rfl rfl (fun r1 s2 => ?_)
      refine x_callS2l dX6_digestChannel_19 lc_RX6_280 (c_X6_mix _ _ _) rfl rfl (fun r3 s4 => ?_)
      refine x_lstore_n dX6_digestChannel_22 rfl rfl rfl ?_
      refine x_iinc dX6_digestChannel_23 rfl rfl rfl rfl ?_
      refine x_goto 5 dX6_digestChannel_26 (by decide) ?_
      exact x_sub (x_le_s rfl (x_le_n (x_le_n (x_le_s rfl (x_le_n (x_le_s rfl x_le_e)))))) (ih _ _ _)

theorem t_X6_digestChannel_32 (k : Int64 → xSt → Option (Int64 × xSt)) (hk : ∀ (w3 : Int64) (σ : xSt), XP κl true m_X6_digestChannel 5 shC 80 [some (.ref 0), none, none, some (.long w3), none, none] [] σ (k w3 σ)) : ∀ (n : Nat) (w3 : Int64) (w5 : Int32) (σ : xSt), XP κl true m_X6_digestChannel 5 shC 32 [some (.ref 0), none, none, some (.long w3), none, some (.int w5)] [] σ (f_X6_digestChannel_32 k n w3 w5 σ) := by
  intro n
  induction n with
  | zero => intro w3 w5 σ; exact x_none
  | succ n ih =>
    intro w3 w5 σ
    rw [f_X6_digestChannel_32]
    refine x_iload dX6_digestChannel_32 rfl ?_
    refine x_aload_n dX6_digestChannel_34 rfl rfl ?_
    refine x_getR dX6_digestChannel_35 lk_RX6_19 rfl rfl ?_
    refine x_getI dX6_digestChannel_38 lk_RX6_72 rfl rfl ?_
    refine x_icmp_ge 80 dX6_digestChannel_41 (by decide) (fun _ => ?_) (fun _ => ?_)
    · exact x_sub (x_le_s rfl (x_le_n (x_le_n (x_le_s rfl (x_le_n (x_le_n x_le_e)))))) (hk _ _)
    · refine x_lload_n dX6_digestChannel_44 rfl rfl ?_
      refine x_aload_n dX6_digestChannel_45 rfl rfl ?_
      refine x_getR dX6_digestChannel_46 lk_RX6_19 rfl rfl ?_
      refine x_iload dX6_digestChannel_49 rfl ?_
      refine x_iconst (v := 0) dX6_digestChannel_51 rfl ?_
      refine x_callV2i dX6_digestChannel_52 lc_RX6_160 (c_X0_netOf _ _ _) rfl rfl rfl rfl rfl (fun r7 s8 => ?_)
      refine x_callS2l dX6_digestChannel_55 lc_RX6_280 (c_X6_mix _ _ _) rfl rfl (fun r9 s10 => ?_)
      refine x_lstore_n dX6_digestChannel_58 rfl rfl rfl ?_
      refine x_lload_n dX6_digestChannel_59 rfl rfl ?_
      refine x_aload_n dX6_digestChannel_60 rfl rfl ?_
      refine x_getR dX6_digestChannel_61 lk_RX6_19 rfl rfl ?_
      refine x_iload dX6_digestChannel_64 rfl ?_
      refine x_iconst (v := 1) dX6_digestChannel_66 rfl ?_
      refine x_callV2i dX6_digestChannel_67 lc_RX6_160 (c_X0_netOf _ _ _) rfl rfl rfl rfl rfl (fun r11 s12 => ?_)
      refine x_callS2l dX6_digestChannel_70 lc_RX6_280 (c_X6_mix _ _ _) rfl rfl (fun r13 s14 => ?_)
      refine x_lstore_n dX6_digestChannel_73 rfl rfl rfl ?_
      refine x_iinc dX6_digestChannel_74 rfl rfl rfl rfl ?_
      refine x_goto 32 dX6_digestChannel_77 (by decide) ?_
      exact x_sub (x_le_s rfl (x_le_n (x_le_n (x_le_s rfl (x_le_n (x_le_s rfl x_le_e)))))) (ih _ _ _)

theorem t_X6_digestChannel_83 (k : Int64 → xSt → Option (Int64 × xSt)) (hk : ∀ (w3 : Int64) (σ : xSt), XP κl true m_X6_digestChannel 5 shC 115 [none, none, none, some (.long w3), none, none] [] σ (k w3 σ)) : ∀ (n : Nat) (w3 : Int64) (w5 : Int32) (σ : xSt), XP κl true m_X6_digestChannel 5 shC 83 [some (.ref 0), none, none, some (.long w3), none, some (.int w5)] [] σ (f_X6_digestChannel_83 k n w3 w5 σ) := by
  intro n
  induction n with
  | zero => intro w3 w5 σ; exact x_none
  | succ n ih =>
    intro w3 w5 σ
    rw [f_X6_digestChannel_83]
    refine x_iload dX6_digestChannel_83 rfl ?_
    refine x_bipush (v := 6) dX6_digestChannel_85 rfl ?_
    refine x_icmp_ge 115 dX6_digestChannel_87 (by decide) (fun _ => ?_) (fun _ => ?_)
    · exact x_sub (x_le_n (x_le_n (x_le_n (x_le_s rfl (x_le_n (x_le_n x_le_e)))))) (hk _ _)
    · refine x_lload_n dX6_digestChannel_90 rfl rfl ?_
      refine x_aload_n dX6_digestChannel_91 rfl rfl ?_
      refine x_iload dX6_digestChannel_92 rfl ?_
      refine x_callV1i dX6_digestChannel_94 lc_RX6_179 (c_X6_isSplit _ _) rfl rfl rfl rfl rfl (fun r17 s18 => ?_)
      refine x_jn 105 (fun (v19 : Int32) => [some (.ref 0), none, none, none, none, some (.int w5)]) (fun (v19 : Int32) => [.int v19, .long w3]) (fun v19 s20 => ?_) (fun j21 hj21 => ?_)
      · refine x_callS2l dX6_digestChannel_105 lc_RX6_280 (c_X6_mix _ _ _) rfl rfl (fun r22 s23 => ?_)
        refine x_lstore_n dX6_digestChannel_108 rfl rfl rfl ?_
        refine x_iinc dX6_digestChannel_109 rfl rfl rfl rfl ?_
        refine x_goto 83 dX6_digestChannel_112 (by decide) ?_
        exact x_sub (x_le_s rfl (x_le_n (x_le_n (x_le_s rfl (x_le_n (x_le_s rfl x_le_e)))))) (ih _ _ _)
      · refine x_if_eq 104 dX6_digestChannel_97 (by decide) (fun _ => ?_) (fun _ => ?_)
        · refine x_iconst (v := 0) dX6_digestChannel_104 rfl ?_
          exact x_sub (x_le_s rfl (x_le_n (x_le_n (x_le_n (x_le_n (x_le_s rfl x_le_e)))))) (hj21 0 _)
        · refine x_iconst (v := 1) dX6_digestChannel_100 rfl ?_
          refine x_goto 105 dX6_digestChannel_101 (by decide) ?_
          exact x_sub (x_le_s rfl (x_le_n (x_le_n (x_le_n (x_le_n (x_le_s rfl x_le_e)))))) (hj21 1 _)

theorem c_X6_digestChannel (a1 : Int64) (σ : xSt) : CON κl yX6_digestChannel m_X6_digestChannel true 5 shC [.ref 0, .long a1] σ (f_X6_digestChannel a1 σ) := by
  refine x_con (L := [some (.ref 0), some (.long a1), none, none, none, none]) (by decide) rfl rfl rfl ?_
  unfold f_X6_digestChannel
  refine x_lload_n dX6_digestChannel_0 rfl rfl ?_
  refine x_lstore_n dX6_digestChannel_1 rfl rfl rfl ?_
  refine x_iconst (v := 0) dX6_digestChannel_2 rfl ?_
  refine x_istore dX6_digestChannel_3 rfl rfl ?_
  refine x_sub (x_le_s rfl (x_le_n (x_le_n (x_le_s rfl (x_le_n (x_le_s rfl x_le_e)))))) (t_X6_digestChannel_5 _ (fun e5 s6 => ?_) FU _ _ _)
  refine x_iconst (v := 0) dX6_digestChannel_29 rfl ?_
  refine x_istore dX6_digestChannel_30 rfl rfl ?_
  refine x_sub (x_le_s rfl (x_le_n (x_le_n (x_le_s rfl (x_le_n (x_le_s rfl x_le_e)))))) (t_X6_digestChannel_32 _ (fun e15 s16 => ?_) FU _ _ _)
  refine x_iconst (v := 0) dX6_digestChannel_80 rfl ?_
  refine x_istore dX6_digestChannel_81 rfl rfl ?_
  refine x_sub (x_le_s rfl (x_le_n (x_le_n (x_le_s rfl (x_le_n (x_le_s rfl x_le_e)))))) (t_X6_digestChannel_83 _ (fun e24 s25 => ?_) FU _ _ _)
  refine x_lload_n dX6_digestChannel_115 rfl rfl ?_
  exact x_lret dX6_digestChannel_116 rfl

theorem t_X6_digestSegments_20 (w5 : Int32) (k : Int64 → xSt → Option (Int64 × xSt)) (hk : ∀ (w3 : Int64) (σ : xSt), XP κl true m_X6_digestSegments 2 shC 46 [some (.ref 0), none, none, some (.long w3), none, some (.int w5), none] [] σ (k w3 σ)) : ∀ (n : Nat) (w3 : Int64) (w6 : Int32) (σ : xSt), XP κl true m_X6_digestSegments 2 shC 20 [some (.ref 0), none, none, some (.long w3), none, some (.int w5), some (.int w6)] [] σ (f_X6_digestSegments_20 w5 k n w3 w6 σ) := by
  intro n
  induction n with
  | zero => intro w3 w6 σ; exact x_none
  | succ n ih =>
    intro w3 w6 σ
    rw [f_X6_digestSegments_20]
    refine x_iload dX6_digestSegments_20 rfl ?_
    refine x_bipush (v := 6) dX6_digestSegments_22 rfl ?_
    refine x_icmp_gt 46 dX6_digestSegments_24 (by decide) (fun _ => ?_) (fun _ => ?_)
    · exact x_sub (x_le_s rfl (x_le_n (x_le_n (x_le_s rfl (x_le_n (x_le_s rfl (x_le_n x_le_e))))))) (hk _ _)
    · refine x_lload_n dX6_digestSegments_27 rfl rfl ?_
      refine x_aload_n dX6_digestSegments_28 rfl rfl ?_
      refine x_iload dX6_digestSegments_29 rfl ?_
      refine x_iload dX6_digestSegments_31 rfl ?_
      refine x_callV2i dX6_digestSegments_33 lc_RX6_292 (c_X6_segment _ _ _) rfl rfl rfl rfl rfl (fun r1 s2 => ?_)
      refine x_callS2l dX6_digestSegments_36 lc_RX6_280 (c_X6_mix _ _ _) rfl rfl (fun r3 s4 => ?_)
      refine x_lstore_n dX6_digestSegments_39 rfl rfl rfl ?_
      refine x_iinc dX6_digestSegments_40 rfl rfl rfl rfl ?_
      refine x_goto 20 dX6_digestSegments_43 (by decide) ?_
      exact x_sub (x_le_s rfl (x_le_n (x_le_n (x_le_s rfl (x_le_n (x_le_s rfl (x_le_s rfl x_le_e))))))) (ih _ _ _)

theorem t_X6_digestSegments_5 (k : Int64 → xSt → Option (Int64 × xSt)) (hk : ∀ (w3 : Int64) (σ : xSt), XP κl true m_X6_digestSegments 2 shC 52 [some (.ref 0), none, none, some (.long w3), none, none, none] [] σ (k w3 σ)) : ∀ (n : Nat) (w3 : Int64) (w5 : Int32) (σ : xSt), XP κl true m_X6_digestSegments 2 shC 5 [some (.ref 0), none, none, some (.long w3), none, some (.int w5), none] [] σ (f_X6_digestSegments_5 k n w3 w5 σ) := by
  intro n
  induction n with
  | zero => intro w3 w5 σ; exact x_none
  | succ n ih =>
    intro w3 w5 σ
    rw [f_X6_digestSegments_5]
    refine x_iload dX6_digestSegments_5 rfl ?_
    refine x_aload_n dX6_digestSegments_7 rfl rfl ?_
    refine x_getR dX6_digestSegments_8 lk_RX6_26 rfl rfl ?_
    refine x_getI dX6_digestSegments_11 lk_RX6_132 rfl rfl ?_
    refine x_icmp_ge 52 dX6_digestSegments_14 (by decide) (fun _ => ?_) (fun _ => ?_)
    · exact x_sub (x_le_s rfl (x_le_n (x_le_n (x_le_s rfl (x_le_n (x_le_n (x_le_n x_le_e))))))) (hk _ _)
    · refine x_iconst (v := 0) dX6_digestSegments_17 rfl ?_
      refine x_istore dX6_digestSegments_18 rfl rfl ?_
      refine x_sub (x_le_s rfl (x_le_n (x_le_n (x_le_s rfl (x_le_n (x_le_s rfl (x_le_s rfl x_le_e))))))) (t_X6_digestSegments_20 _ _ (fun e5 s6 => ?_) FU _ _ _)
      refine x_iinc dX6_digestSegments_46 rfl rfl rfl rfl ?_
      refine x_goto 5 dX6_digestSegments_49 (by decide) ?_
      exact x_sub (x_le_s rfl (x_le_n (x_le_n (x_le_s rfl (x_le_n (x_le_s rfl (x_le_n x_le_e))))))) (ih _ _ _)

theorem t_X6_digestSegments_55 (k : Int64 → xSt → Option (Int64 × xSt)) (hk : ∀ (w3 : Int64) (σ : xSt), XP κl true m_X6_digestSegments 2 shC 84 [some (.ref 0), none, none, some (.long w3), none, none, none] [] σ (k w3 σ)) : ∀ (n : Nat) (w3 : Int64) (w5 : Int32) (σ : xSt), XP κl true m_X6_digestSegments 2 shC 55 [some (.ref 0), none, none, some (.long w3), none, some (.int w5), none] [] σ (f_X6_digestSegments_55 k n w3 w5 σ) := by
  intro n
  induction n with
  | zero => intro w3 w5 σ; exact x_none
  | succ n ih =>
    intro w3 w5 σ
    rw [f_X6_digestSegments_55]
    refine x_iload dX6_digestSegments_55 rfl ?_
    refine x_aload_n dX6_digestSegments_57 rfl rfl ?_
    refine x_getR dX6_digestSegments_58 lk_RX6_36 rfl rfl ?_
    refine x_getI dX6_digestSegments_61 lk_RX6_141 rfl rfl ?_
    refine x_icmp_ge 84 dX6_digestSegments_64 (by decide) (fun _ => ?_) (fun _ => ?_)
    · exact x_sub (x_le_s rfl (x_le_n (x_le_n (x_le_s rfl (x_le_n (x_le_n (x_le_n x_le_e))))))) (hk _ _)
    · refine x_lload_n dX6_digestSegments_67 rfl rfl ?_
      refine x_aload_n dX6_digestSegments_68 rfl rfl ?_
      refine x_iload dX6_digestSegments_69 rfl ?_
      refine x_callV1i dX6_digestSegments_71 lc_RX6_294 (c_X6_ring _ _) rfl rfl rfl rfl rfl (fun r9 s10 => ?_)
      refine x_callS2l dX6_digestSegments_74 lc_RX6_280 (c_X6_mix _ _ _) rfl rfl (fun r11 s12 => ?_)
      refine x_lstore_n dX6_digestSegments_77 rfl rfl rfl ?_
      refine x_iinc dX6_digestSegments_78 rfl rfl rfl rfl ?_
      refine x_goto 55 dX6_digestSegments_81 (by decide) ?_
      exact x_sub (x_le_s rfl (x_le_n (x_le_n (x_le_s rfl (x_le_n (x_le_s rfl (x_le_n x_le_e))))))) (ih _ _ _)

theorem t_X6_digestSegments_87 (k : Int64 → xSt → Option (Int64 × xSt)) (hk : ∀ (w3 : Int64) (σ : xSt), XP κl true m_X6_digestSegments 2 shC 116 [none, none, none, some (.long w3), none, none, none] [] σ (k w3 σ)) : ∀ (n : Nat) (w3 : Int64) (w5 : Int32) (σ : xSt), XP κl true m_X6_digestSegments 2 shC 87 [some (.ref 0), none, none, some (.long w3), none, some (.int w5), none] [] σ (f_X6_digestSegments_87 k n w3 w5 σ) := by
  intro n
  induction n with
  | zero => intro w3 w5 σ; exact x_none
  | succ n ih =>
    intro w3 w5 σ
    rw [f_X6_digestSegments_87]
    refine x_iload dX6_digestSegments_87 rfl ?_
    refine x_aload_n dX6_digestSegments_89 rfl rfl ?_
    refine x_getR dX6_digestSegments_90 lk_RX6_43 rfl rfl ?_
    refine x_getI dX6_digestSegments_93 lk_RX6_145 rfl rfl ?_
    refine x_icmp_ge 116 dX6_digestSegments_96 (by decide) (fun _ => ?_) (fun _ => ?_)
    · exact x_sub (x_le_n (x_le_n (x_le_n (x_le_s rfl (x_le_n (x_le_n (x_le_n x_le_e))))))) (hk _ _)
    · refine x_lload_n dX6_digestSegments_99 rfl rfl ?_
      refine x_aload_n dX6_digestSegments_100 rfl rfl ?_
      refine x_iload dX6_digestSegments_101 rfl ?_
      refine x_callV1i dX6_digestSegments_103 lc_RX6_297 (c_X6_zone _ _) rfl rfl rfl rfl rfl (fun r15 s16 => ?_)
      refine x_callS2l dX6_digestSegments_106 lc_RX6_280 (c_X6_mix _ _ _) rfl rfl (fun r17 s18 => ?_)
      refine x_lstore_n dX6_digestSegments_109 rfl rfl rfl ?_
      refine x_iinc dX6_digestSegments_110 rfl rfl rfl rfl ?_
      refine x_goto 87 dX6_digestSegments_113 (by decide) ?_
      exact x_sub (x_le_s rfl (x_le_n (x_le_n (x_le_s rfl (x_le_n (x_le_s rfl (x_le_n x_le_e))))))) (ih _ _ _)

theorem c_X6_digestSegments (a1 : Int64) (σ : xSt) : CON κl yX6_digestSegments m_X6_digestSegments true 2 shC [.ref 0, .long a1] σ (f_X6_digestSegments a1 σ) := by
  refine x_con (L := [some (.ref 0), some (.long a1), none, none, none, none, none]) (by decide) rfl rfl rfl ?_
  unfold f_X6_digestSegments
  refine x_lload_n dX6_digestSegments_0 rfl rfl ?_
  refine x_lstore_n dX6_digestSegments_1 rfl rfl rfl ?_
  refine x_iconst (v := 0) dX6_digestSegments_2 rfl ?_
  refine x_istore dX6_digestSegments_3 rfl rfl ?_
  refine x_sub (x_le_s rfl (x_le_n (x_le_n (x_le_s rfl (x_le_n (x_le_s rfl (x_le_n x_le_e))))))) (t_X6_digestSegments_5 _ (fun e7 s8 => ?_) FU _ _ _)
  refine x_iconst (v := 0) dX6_digestSegments_52 rfl ?_
  refine x_istore dX6_digestSegments_53 rfl rfl ?_
  refine x_sub (x_le_s rfl (x_le_n (x_le_n (x_le_s rfl (x_le_n (x_le_s rfl (x_le_n x_le_e))))))) (t_X6_digestSegments_55 _ (fun e13 s14 => ?_) FU _ _ _)
  refine x_iconst (v := 0) dX6_digestSegments_84 rfl ?_
  refine x_istore dX6_digestSegments_85 rfl rfl ?_
  refine x_sub (x_le_s rfl (x_le_n (x_le_n (x_le_s rfl (x_le_n (x_le_s rfl (x_le_n x_le_e))))))) (t_X6_digestSegments_87 _ (fun e19 s20 => ?_) FU _ _ _)
  refine x_lload_n dX6_digestSegments_116 rfl rfl ?_
  exact x_lret dX6_digestSegments_117 rfl

theorem t_X6_digestPlan_30 (w6 : Int32) (w5 : Int32) (k : Int64 → xSt → Option (Int64 × xSt)) (hk : ∀ (w3 : Int64) (σ : xSt), XP κl true m_X6_digestPlan 4 shC 54 [some (.ref 0), none, none, some (.long w3), none, some (.int w5), none, none, none] [] σ (k w3 σ)) : ∀ (n : Nat) (w3 : Int64) (w7 : Int32) (σ : xSt), XP κl true m_X6_digestPlan 4 shC 30 [some (.ref 0), none, none, some (.long w3), none, some (.int w5), some (.int w6), some (.int w7), none] [] σ (f_X6_digestPlan_30 w6 k n w3 w7 σ) := by
  intro n
  induction n with
  | zero => intro w3 w7 σ; exact x_none
  | succ n ih =>
    intro w3 w7 σ
    rw [f_X6_digestPlan_30]
    refine x_iload dX6_digestPlan_30 rfl ?_
    refine x_iload dX6_digestPlan_32 rfl ?_
    refine x_icmp_ge 54 dX6_digestPlan_34 (by decide) (fun _ => ?_) (fun _ => ?_)
    · exact x_sub (x_le_s rfl (x_le_n (x_le_n (x_le_s rfl (x_le_n (x_le_s rfl (x_le_n (x_le_n (x_le_n x_le_e))))))))) (hk _ _)
    · refine x_lload_n dX6_digestPlan_37 rfl rfl ?_
      refine x_aload_n dX6_digestPlan_38 rfl rfl ?_
      refine x_iload dX6_digestPlan_39 rfl ?_
      refine x_callV1i dX6_digestPlan_41 lc_RX6_300 (c_X6_ink _ _) rfl rfl rfl rfl rfl (fun r4 s5 => ?_)
      refine x_callS2l dX6_digestPlan_44 lc_RX6_280 (c_X6_mix _ _ _) rfl rfl (fun r6 s7 => ?_)
      refine x_lstore_n dX6_digestPlan_47 rfl rfl rfl ?_
      refine x_iinc dX6_digestPlan_48 rfl rfl rfl rfl ?_
      refine x_goto 30 dX6_digestPlan_51 (by decide) ?_
      exact x_sub (x_le_s rfl (x_le_n (x_le_n (x_le_s rfl (x_le_n (x_le_s rfl (x_le_s rfl (x_le_s rfl (x_le_n x_le_e))))))))) (ih _ _ _)

theorem t_X6_digestPlan_67 (w7 : Int32) (w5 : Int32) (k : Int64 → xSt → Option (Int64 × xSt)) (hk : ∀ (w3 : Int64) (σ : xSt), XP κl true m_X6_digestPlan 4 shC 99 [some (.ref 0), none, none, some (.long w3), none, some (.int w5), none, some (.int w7), none] [] σ (k w3 σ)) : ∀ (n : Nat) (w3 : Int64) (w8 : Int32) (σ : xSt), XP κl true m_X6_digestPlan 4 shC 67 [some (.ref 0), none, none, some (.long w3), none, some (.int w5), none, some (.int w7), some (.int w8)] [] σ (f_X6_digestPlan_67 w7 k n w3 w8 σ) := by
  intro n
  induction n with
  | zero => intro w3 w8 σ; exact x_none
  | succ n ih =>
    intro w3 w8 σ
    rw [f_X6_digestPlan_67]
    refine x_iload dX6_digestPlan_67 rfl ?_
    refine x_aload_n dX6_digestPlan_69 rfl rfl ?_
    refine x_getR dX6_digestPlan_70 lk_RX6_19 rfl rfl ?_
    refine x_getI dX6_digestPlan_73 lk_RX6_72 rfl rfl ?_
    refine x_icmp_ge 99 dX6_digestPlan_76 (by decide) (fun _ => ?_) (fun _ => ?_)
    · exact x_sub (x_le_s rfl (x_le_n (x_le_n (x_le_s rfl (x_le_n (x_le_s rfl (x_le_n (x_le_s rfl (x_le_n x_le_e))))))))) (hk _ _)
    · refine x_lload_n dX6_digestPlan_79 rfl rfl ?_
      refine x_aload_n dX6_digestPlan_80 rfl rfl ?_
      refine x_iload dX6_digestPlan_81 rfl ?_
      refine x_iload dX6_digestPlan_83 rfl ?_
      refine x_iconst (v := 1) dX6_digestPlan_85 rfl ?_
      refine x_callV3i dX6_digestPlan_86 lc_RX6_303 (c_X6_cell _ _ _ _) rfl rfl rfl rfl rfl (fun r10 s11 => ?_)
      refine x_callS2l dX6_digestPlan_89 lc_RX6_280 (c_X6_mix _ _ _) rfl rfl (fun r12 s13 => ?_)
      refine x_lstore_n dX6_digestPlan_92 rfl rfl rfl ?_
      refine x_iinc dX6_digestPlan_93 rfl rfl rfl rfl ?_
      refine x_goto 67 dX6_digestPlan_96 (by decide) ?_
      exact x_sub (x_le_s rfl (x_le_n (x_le_n (x_le_s rfl (x_le_n (x_le_s rfl (x_le_n (x_le_s rfl (x_le_s rfl x_le_e))))))))) (ih _ _ _)

theorem t_X6_digestPlan_57 (w5 : Int32) (k : Int64 → xSt → Option (Int64 × xSt)) (hk : ∀ (w3 : Int64) (σ : xSt), XP κl true m_X6_digestPlan 4 shC 105 [none, none, none, some (.long w3), none, none, none, none, none] [] σ (k w3 σ)) : ∀ (n : Nat) (w3 : Int64) (w7 : Int32) (σ : xSt), XP κl true m_X6_digestPlan 4 shC 57 [some (.ref 0), none, none, some (.long w3), none, some (.int w5), none, some (.int w7), none] [] σ (f_X6_digestPlan_57 w5 k n w3 w7 σ) := by
  intro n
  induction n with
  | zero => intro w3 w7 σ; exact x_none
  | succ n ih =>
    intro w3 w7 σ
    rw [f_X6_digestPlan_57]
    refine x_iload dX6_digestPlan_57 rfl ?_
    refine x_iload dX6_digestPlan_59 rfl ?_
    refine x_icmp_ge 105 dX6_digestPlan_61 (by decide) (fun _ => ?_) (fun _ => ?_)
    · exact x_sub (x_le_n (x_le_n (x_le_n (x_le_s rfl (x_le_n (x_le_n (x_le_n (x_le_n (x_le_n x_le_e))))))))) (hk _ _)
    · refine x_iconst (v := 0) dX6_digestPlan_64 rfl ?_
      refine x_istore dX6_digestPlan_65 rfl rfl ?_
      refine x_sub (x_le_s rfl (x_le_n (x_le_n (x_le_s rfl (x_le_n (x_le_s rfl (x_le_n (x_le_s rfl (x_le_s rfl x_le_e))))))))) (t_X6_digestPlan_67 _ _ _ (fun e14 s15 => ?_) FU _ _ _)
      refine x_iinc dX6_digestPlan_99 rfl rfl rfl rfl ?_
      refine x_goto 57 dX6_digestPlan_102 (by decide) ?_
      exact x_sub (x_le_s rfl (x_le_n (x_le_n (x_le_s rfl (x_le_n (x_le_s rfl (x_le_n (x_le_s rfl (x_le_n x_le_e))))))))) (ih _ _ _)

theorem c_X6_digestPlan (a1 : Int64) (σ : xSt) : CON κl yX6_digestPlan m_X6_digestPlan true 4 shC [.ref 0, .long a1] σ (f_X6_digestPlan a1 σ) := by
  refine x_con (L := [some (.ref 0), some (.long a1), none, none, none, none, none, none, none]) (by decide) rfl rfl rfl ?_
  unfold f_X6_digestPlan
  refine x_lload_n dX6_digestPlan_0 rfl rfl ?_
  refine x_lstore_n dX6_digestPlan_1 rfl rfl rfl ?_
  refine x_aload_n dX6_digestPlan_2 rfl rfl ?_
  refine x_getR dX6_digestPlan_3 lk_RX6_50 rfl rfl ?_
  refine x_callV0i dX6_digestPlan_6 lc_RX6_122 (c_X1_depth _) rfl rfl rfl rfl rfl (fun r1 s2 => ?_)
  refine x_istore dX6_digestPlan_9 rfl rfl ?_
  refine x_iload dX6_digestPlan_11 rfl ?_
  refine x_aload_n dX6_digestPlan_13 rfl rfl ?_
  refine x_getR dX6_digestPlan_14 lk_RX6_19 rfl rfl ?_
  refine x_getI dX6_digestPlan_17 lk_RX6_72 rfl rfl ?_
  refine x_iconst (v := 1) dX6_digestPlan_20 rfl ?_
  refine x_iadd dX6_digestPlan_21 ?_
  refine x_imul dX6_digestPlan_22 ?_
  refine x_iconst (v := 1) dX6_digestPlan_23 rfl ?_
  refine x_isub dX6_digestPlan_24 ?_
  refine x_istoreB dX6_digestPlan_25 rfl rfl (fun x3 => ?_)
  refine x_iconst (v := 0) dX6_digestPlan_27 rfl ?_
  refine x_istore dX6_digestPlan_28 rfl rfl ?_
  refine x_sub (x_le_s rfl (x_le_n (x_le_n (x_le_s rfl (x_le_n (x_le_s rfl (x_le_s rfl (x_le_s rfl (x_le_n x_le_e))))))))) (t_X6_digestPlan_30 _ _ _ (fun e8 s9 => ?_) FU _ _ _)
  refine x_iconst (v := 0) dX6_digestPlan_54 rfl ?_
  refine x_istore dX6_digestPlan_55 rfl rfl ?_
  refine x_sub (x_le_s rfl (x_le_n (x_le_n (x_le_s rfl (x_le_n (x_le_s rfl (x_le_n (x_le_s rfl (x_le_n x_le_e))))))))) (t_X6_digestPlan_57 _ _ (fun e16 s17 => ?_) FU _ _ _)
  refine x_lload_n dX6_digestPlan_105 rfl rfl ?_
  exact x_lret dX6_digestPlan_106 rfl

