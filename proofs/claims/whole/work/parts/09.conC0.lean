theorem c_X0_netOf (a1 : Int32) (a2 : Int32) (σ : xSt) : CON κi yX0_netOf m_X0_netOf true 0 shC [.ref 3, .int a1, .int a2] σ (f_X0_netOf a1 a2 σ) := by
  refine x_con (L := [some (.ref 3), some (.int a1), some (.int a2)]) (by decide) rfl rfl rfl ?_
  unfold f_X0_netOf
  refine x_aload_n dX0_netOf_0 rfl rfl ?_
  refine x_getR dX0_netOf_1 lk_RX0_9 rfl rfl ?_
  refine x_iconst (v := 2) dX0_netOf_4 rfl ?_
  refine x_iload_n dX0_netOf_5 rfl rfl ?_
  refine x_imul dX0_netOf_6 ?_
  refine x_iload_n dX0_netOf_7 rfl rfl ?_
  refine x_iadd dX0_netOf_8 ?_
  refine x_iald dX0_netOf_9 rfl ?_
  exact x_iret dX0_netOf_10 rfl

theorem c_X0_change (a1 : Int32) (a2 : Int32) (a3 : Int32) (σ : xSt) : CON κv yX0_change m_X0_change true 0 shC [.ref 3, .int a1, .int a2, .int a3] σ (f_X0_change a1 a2 a3 σ) := by
  refine x_con (L := [some (.ref 3), some (.int a1), some (.int a2), some (.int a3)]) (by decide) rfl rfl rfl ?_
  unfold f_X0_change
  refine x_aload_n dX0_change_0 rfl rfl ?_
  refine x_getR dX0_change_1 lk_RX0_9 rfl rfl ?_
  refine x_iconst (v := 2) dX0_change_4 rfl ?_
  refine x_iload_n dX0_change_5 rfl rfl ?_
  refine x_imul dX0_change_6 ?_
  refine x_iload_n dX0_change_7 rfl rfl ?_
  refine x_iadd dX0_change_8 ?_
  refine x_iload_n dX0_change_9 rfl rfl ?_
  refine x_iastB dX0_change_10 rfl (fun s1 => ?_)
  exact x_vret dX0_change_11 rfl

theorem t_X0_columnsWith_4 (w1 : Int32) (k : Int32 → xSt → Option (Int32 × xSt)) (hk : ∀ (w2 : Int32) (σ : xSt), XP κi true m_X0_columnsWith 1 shC 44 [none, none, some (.int w2), none] [] σ (k w2 σ)) : ∀ (n : Nat) (w2 : Int32) (w3 : Int32) (σ : xSt), XP κi true m_X0_columnsWith 1 shC 4 [some (.ref 3), some (.int w1), some (.int w2), some (.int w3)] [] σ (f_X0_columnsWith_4 w1 k n w2 w3 σ) := by
  intro n
  induction n with
  | zero => intro w2 w3 σ; exact x_none
  | succ n ih =>
    intro w2 w3 σ
    rw [f_X0_columnsWith_4]
    refine x_iload_n dX0_columnsWith_4 rfl rfl ?_
    refine x_aload_n dX0_columnsWith_5 rfl rfl ?_
    refine x_getI dX0_columnsWith_6 lk_RX0_15 rfl rfl ?_
    refine x_icmp_ge 44 dX0_columnsWith_9 (by decide) (fun _ => ?_) (fun _ => ?_)
    · exact x_sub (x_le_n (x_le_n (x_le_s rfl (x_le_n x_le_e)))) (hk _ _)
    · refine x_aload_n dX0_columnsWith_12 rfl rfl ?_
      refine x_iload_n dX0_columnsWith_13 rfl rfl ?_
      refine x_iconst (v := 0) dX0_columnsWith_14 rfl ?_
      refine x_callV2i dX0_columnsWith_15 lc_RX0_19 (c_X0_netOf _ _ _) rfl rfl rfl rfl rfl (fun r1 s2 => ?_)
      refine x_iload_n dX0_columnsWith_18 rfl rfl ?_
      refine x_jn 38 (fun (v11 : Int32) => [some (.ref 3), some (.int w1), some (.int v11), some (.int w3)]) (fun (v11 : Int32) => []) (fun v11 s12 => ?_) (fun j13 hj13 => ?_)
      · refine x_iinc dX0_columnsWith_38 rfl rfl rfl rfl ?_
        refine x_goto 4 dX0_columnsWith_41 (by decide) ?_
        exact x_sub (x_le_s rfl (x_le_s rfl (x_le_s rfl (x_le_s rfl x_le_e)))) (ih _ _ _)
      · refine x_jn 32 (fun (v16 : Unit) => [some (.ref 3), some (.int w1), some (.int w2), some (.int w3)]) (fun (v16 : Unit) => []) (fun v16 s17 => ?_) (fun j18 hj18 => ?_)
        · refine x_iload_n dX0_columnsWith_32 rfl rfl ?_
          refine x_iconst (v := 1) dX0_columnsWith_33 rfl ?_
          refine x_iload_n dX0_columnsWith_34 rfl rfl ?_
          refine x_ishl dX0_columnsWith_35 ?_
          refine x_ior dX0_columnsWith_36 ?_
          refine x_istore_nB dX0_columnsWith_37 rfl rfl rfl (fun x19 => ?_)
          exact x_sub (x_le_s rfl (x_le_s rfl (x_le_s rfl (x_le_s rfl x_le_e)))) (hj13 x19 _)
        · refine x_icmp_eq 32 dX0_columnsWith_19 (by decide) (fun _ => ?_) (fun _ => ?_)
          · exact x_sub (x_le_s rfl (x_le_s rfl (x_le_s rfl (x_le_s rfl x_le_e)))) (hj18 () _)
          · refine x_aload_n dX0_columnsWith_22 rfl rfl ?_
            refine x_iload_n dX0_columnsWith_23 rfl rfl ?_
            refine x_iconst (v := 1) dX0_columnsWith_24 rfl ?_
            refine x_callV2i dX0_columnsWith_25 lc_RX0_19 (c_X0_netOf _ _ _) rfl rfl rfl rfl rfl (fun r20 s21 => ?_)
            refine x_iload_n dX0_columnsWith_28 rfl rfl ?_
            refine x_icmp_ne 38 dX0_columnsWith_29 (by decide) (fun _ => ?_) (fun _ => ?_)
            · exact x_sub (x_le_s rfl (x_le_s rfl (x_le_s rfl (x_le_s rfl x_le_e)))) (hj13 w2 _)
            · exact x_sub (x_le_s rfl (x_le_s rfl (x_le_s rfl (x_le_s rfl x_le_e)))) (hj18 () _)

theorem c_X0_columnsWith (a1 : Int32) (σ : xSt) : CON κi yX0_columnsWith m_X0_columnsWith true 1 shC [.ref 3, .int a1] σ (f_X0_columnsWith a1 σ) := by
  refine x_con (L := [some (.ref 3), some (.int a1), none, none]) (by decide) rfl rfl rfl ?_
  unfold f_X0_columnsWith
  refine x_iconst (v := 0) dX0_columnsWith_0 rfl ?_
  refine x_istore_n dX0_columnsWith_1 rfl rfl rfl ?_
  refine x_iconst (v := 0) dX0_columnsWith_2 rfl ?_
  refine x_istore_n dX0_columnsWith_3 rfl rfl rfl ?_
  refine x_sub (x_le_s rfl (x_le_s rfl (x_le_s rfl (x_le_s rfl x_le_e)))) (t_X0_columnsWith_4 _ _ (fun e22 s23 => ?_) FU _ _ _)
  refine x_iload_n dX0_columnsWith_44 rfl rfl ?_
  exact x_iret dX0_columnsWith_45 rfl

theorem t_X0_pinsOf_4 (w1 : Int32) (k : Int32 → xSt → Option (Int32 × xSt)) (hk : ∀ (w2 : Int32) (σ : xSt), XP κi true m_X0_pinsOf 0 shC 33 [none, none, some (.int w2), none] [] σ (k w2 σ)) : ∀ (n : Nat) (w2 : Int32) (w3 : Int32) (σ : xSt), XP κi true m_X0_pinsOf 0 shC 4 [some (.ref 3), some (.int w1), some (.int w2), some (.int w3)] [] σ (f_X0_pinsOf_4 w1 k n w2 w3 σ) := by
  intro n
  induction n with
  | zero => intro w2 w3 σ; exact x_none
  | succ n ih =>
    intro w2 w3 σ
    rw [f_X0_pinsOf_4]
    refine x_iload_n dX0_pinsOf_4 rfl rfl ?_
    refine x_iconst (v := 2) dX0_pinsOf_5 rfl ?_
    refine x_aload_n dX0_pinsOf_6 rfl rfl ?_
    refine x_getI dX0_pinsOf_7 lk_RX0_15 rfl rfl ?_
    refine x_imul dX0_pinsOf_10 ?_
    refine x_icmp_ge 33 dX0_pinsOf_11 (by decide) (fun _ => ?_) (fun _ => ?_)
    · exact x_sub (x_le_n (x_le_n (x_le_s rfl (x_le_n x_le_e)))) (hk _ _)
    · refine x_aload_n dX0_pinsOf_14 rfl rfl ?_
      refine x_getR dX0_pinsOf_15 lk_RX0_9 rfl rfl ?_
      refine x_iload_n dX0_pinsOf_18 rfl rfl ?_
      refine x_iald dX0_pinsOf_19 rfl ?_
      refine x_iload_n dX0_pinsOf_20 rfl rfl ?_
      refine x_jn 27 (fun (v1 : Int32) => [some (.ref 3), some (.int w1), some (.int v1), some (.int w3)]) (fun (v1 : Int32) => []) (fun v1 s2 => ?_) (fun j3 hj3 => ?_)
      · refine x_iinc dX0_pinsOf_27 rfl rfl rfl rfl ?_
        refine x_goto 4 dX0_pinsOf_30 (by decide) ?_
        exact x_sub (x_le_s rfl (x_le_s rfl (x_le_s rfl (x_le_s rfl x_le_e)))) (ih _ _ _)
      · refine x_icmp_ne 27 dX0_pinsOf_21 (by decide) (fun _ => ?_) (fun _ => ?_)
        · exact x_sub (x_le_s rfl (x_le_s rfl (x_le_s rfl (x_le_s rfl x_le_e)))) (hj3 w2 _)
        · refine x_iinc dX0_pinsOf_24 rfl rfl rfl rfl ?_
          exact x_sub (x_le_s rfl (x_le_s rfl (x_le_s rfl (x_le_s rfl x_le_e)))) (hj3 (w2 + 1) _)

theorem c_X0_pinsOf (a1 : Int32) (σ : xSt) : CON κi yX0_pinsOf m_X0_pinsOf true 0 shC [.ref 3, .int a1] σ (f_X0_pinsOf a1 σ) := by
  refine x_con (L := [some (.ref 3), some (.int a1), none, none]) (by decide) rfl rfl rfl ?_
  unfold f_X0_pinsOf
  refine x_iconst (v := 0) dX0_pinsOf_0 rfl ?_
  refine x_istore_n dX0_pinsOf_1 rfl rfl rfl ?_
  refine x_iconst (v := 0) dX0_pinsOf_2 rfl ?_
  refine x_istore_n dX0_pinsOf_3 rfl rfl rfl ?_
  refine x_sub (x_le_s rfl (x_le_s rfl (x_le_s rfl (x_le_s rfl x_le_e)))) (t_X0_pinsOf_4 _ _ (fun e4 s5 => ?_) FU _ _ _)
  refine x_iload_n dX0_pinsOf_33 rfl rfl ?_
  exact x_iret dX0_pinsOf_34 rfl

theorem c_X0_pinsOfNets (σ : xSt) : CON κi yX0_pinsOfNets m_X0_pinsOfNets true 1 shC [.ref 3] σ (f_X0_pinsOfNets σ) := by
  refine x_con (L := [some (.ref 3)]) (by decide) rfl rfl rfl ?_
  unfold f_X0_pinsOfNets
  refine x_iconst (v := 2) dX0_pinsOfNets_0 rfl ?_
  refine x_aload_n dX0_pinsOfNets_1 rfl rfl ?_
  refine x_getI dX0_pinsOfNets_2 lk_RX0_15 rfl rfl ?_
  refine x_imul dX0_pinsOfNets_5 ?_
  refine x_aload_n dX0_pinsOfNets_6 rfl rfl ?_
  refine x_iconst (v := -1) dX0_pinsOfNets_7 rfl ?_
  refine x_callV1i dX0_pinsOfNets_8 lc_RX0_23 (c_X0_pinsOf _ _) rfl rfl rfl rfl rfl (fun r1 s2 => ?_)
  refine x_isub dX0_pinsOfNets_11 ?_
  exact x_iret dX0_pinsOfNets_12 rfl

theorem t_X0_nets_4 (k : Int32 → xSt → Option (Int32 × xSt)) (hk : ∀ (w1 : Int32) (σ : xSt), XP κi true m_X0_nets 2 shC 27 [none, some (.int w1), none] [] σ (k w1 σ)) : ∀ (n : Nat) (w1 : Int32) (w2 : Int32) (σ : xSt), XP κi true m_X0_nets 2 shC 4 [some (.ref 3), some (.int w1), some (.int w2)] [] σ (f_X0_nets_4 k n w1 w2 σ) := by
  intro n
  induction n with
  | zero => intro w1 w2 σ; exact x_none
  | succ n ih =>
    intro w1 w2 σ
    rw [f_X0_nets_4]
    refine x_iload_n dX0_nets_4 rfl rfl ?_
    refine x_bipush (v := 6) dX0_nets_5 rfl ?_
    refine x_icmp_ge 27 dX0_nets_7 (by decide) (fun _ => ?_) (fun _ => ?_)
    · exact x_sub (x_le_n (x_le_s rfl (x_le_n x_le_e))) (hk _ _)
    · refine x_aload_n dX0_nets_10 rfl rfl ?_
      refine x_iload_n dX0_nets_11 rfl rfl ?_
      refine x_callV1i dX0_nets_12 lc_RX0_27 (c_X0_columnsWith _ _) rfl rfl rfl rfl rfl (fun r1 s2 => ?_)
      refine x_jn 21 (fun (v3 : Int32) => [some (.ref 3), some (.int v3), some (.int w2)]) (fun (v3 : Int32) => []) (fun v3 s4 => ?_) (fun j5 hj5 => ?_)
      · refine x_iinc dX0_nets_21 rfl rfl rfl rfl ?_
        refine x_goto 4 dX0_nets_24 (by decide) ?_
        exact x_sub (x_le_s rfl (x_le_s rfl (x_le_s rfl x_le_e))) (ih _ _ _)
      · refine x_if_eq 21 dX0_nets_15 (by decide) (fun _ => ?_) (fun _ => ?_)
        · exact x_sub (x_le_s rfl (x_le_s rfl (x_le_s rfl x_le_e))) (hj5 w1 _)
        · refine x_iinc dX0_nets_18 rfl rfl rfl rfl ?_
          exact x_sub (x_le_s rfl (x_le_s rfl (x_le_s rfl x_le_e))) (hj5 (w1 + 1) _)

theorem c_X0_nets (σ : xSt) : CON κi yX0_nets m_X0_nets true 2 shC [.ref 3] σ (f_X0_nets σ) := by
  refine x_con (L := [some (.ref 3), none, none]) (by decide) rfl rfl rfl ?_
  unfold f_X0_nets
  refine x_iconst (v := 0) dX0_nets_0 rfl ?_
  refine x_istore_n dX0_nets_1 rfl rfl rfl ?_
  refine x_iconst (v := 0) dX0_nets_2 rfl ?_
  refine x_istore_n dX0_nets_3 rfl rfl rfl ?_
  refine x_sub (x_le_s rfl (x_le_s rfl (x_le_s rfl x_le_e))) (t_X0_nets_4 _ (fun e6 s7 => ?_) FU _ _ _)
  refine x_iload_n dX0_nets_27 rfl rfl ?_
  exact x_iret dX0_nets_28 rfl

theorem c_J6_bitCount_0f7a4 (a0 : Int32) (σ : xSt) : CON κi yJ6_bitCount_0f7a4 m_J6_bitCount_0f7a4 true 0 shC [.int a0] σ (f_J6_bitCount_0f7a4 a0 σ) := by
  refine x_con (L := [some (.int a0)]) (by decide) rfl rfl rfl ?_
  unfold f_J6_bitCount_0f7a4
  refine x_iload_n dJ6_bitCount_0f7a4_0 rfl rfl ?_
  refine x_iload_n dJ6_bitCount_0f7a4_1 rfl rfl ?_
  refine x_iconst (v := 1) dJ6_bitCount_0f7a4_2 rfl ?_
  refine x_iushr dJ6_bitCount_0f7a4_3 ?_
  refine x_ldcw (v := 1431655765) dJ6_bitCount_0f7a4_4 (xT_of 429 (by decide +kernel) (by decide +kernel)) ?_
  refine x_iand dJ6_bitCount_0f7a4_7 ?_
  refine x_isub dJ6_bitCount_0f7a4_8 ?_
  refine x_istore_nB dJ6_bitCount_0f7a4_9 rfl rfl rfl (fun x1 => ?_)
  refine x_iload_n dJ6_bitCount_0f7a4_10 rfl rfl ?_
  refine x_ldcw (v := 858993459) dJ6_bitCount_0f7a4_11 (xT_of 430 (by decide +kernel) (by decide +kernel)) ?_
  refine x_iand dJ6_bitCount_0f7a4_14 ?_
  refine x_iload_n dJ6_bitCount_0f7a4_15 rfl rfl ?_
  refine x_iconst (v := 2) dJ6_bitCount_0f7a4_16 rfl ?_
  refine x_iushr dJ6_bitCount_0f7a4_17 ?_
  refine x_ldcw (v := 858993459) dJ6_bitCount_0f7a4_18 (xT_of 430 (by decide +kernel) (by decide +kernel)) ?_
  refine x_iand dJ6_bitCount_0f7a4_21 ?_
  refine x_iadd dJ6_bitCount_0f7a4_22 ?_
  refine x_istore_nB dJ6_bitCount_0f7a4_23 rfl rfl rfl (fun x2 => ?_)
  refine x_iload_n dJ6_bitCount_0f7a4_24 rfl rfl ?_
  refine x_iload_n dJ6_bitCount_0f7a4_25 rfl rfl ?_
  refine x_iconst (v := 4) dJ6_bitCount_0f7a4_26 rfl ?_
  refine x_iushr dJ6_bitCount_0f7a4_27 ?_
  refine x_iadd dJ6_bitCount_0f7a4_28 ?_
  refine x_ldcw (v := 252645135) dJ6_bitCount_0f7a4_29 (xT_of 431 (by decide +kernel) (by decide +kernel)) ?_
  refine x_iand dJ6_bitCount_0f7a4_32 ?_
  refine x_istore_nB dJ6_bitCount_0f7a4_33 rfl rfl rfl (fun x3 => ?_)
  refine x_iload_n dJ6_bitCount_0f7a4_34 rfl rfl ?_
  refine x_iload_n dJ6_bitCount_0f7a4_35 rfl rfl ?_
  refine x_bipush (v := 8) dJ6_bitCount_0f7a4_36 rfl ?_
  refine x_iushr dJ6_bitCount_0f7a4_38 ?_
  refine x_iadd dJ6_bitCount_0f7a4_39 ?_
  refine x_istore_nB dJ6_bitCount_0f7a4_40 rfl rfl rfl (fun x4 => ?_)
  refine x_iload_n dJ6_bitCount_0f7a4_41 rfl rfl ?_
  refine x_iload_n dJ6_bitCount_0f7a4_42 rfl rfl ?_
  refine x_bipush (v := 16) dJ6_bitCount_0f7a4_43 rfl ?_
  refine x_iushr dJ6_bitCount_0f7a4_45 ?_
  refine x_iadd dJ6_bitCount_0f7a4_46 ?_
  refine x_istore_nB dJ6_bitCount_0f7a4_47 rfl rfl rfl (fun x5 => ?_)
  refine x_iload_n dJ6_bitCount_0f7a4_48 rfl rfl ?_
  refine x_bipush (v := 63) dJ6_bitCount_0f7a4_49 rfl ?_
  refine x_iand dJ6_bitCount_0f7a4_51 ?_
  exact x_iret dJ6_bitCount_0f7a4_52 rfl

theorem t_X0_splittableNets_4 (k : Int32 → xSt → Option (Int32 × xSt)) (hk : ∀ (w1 : Int32) (σ : xSt), XP κi true m_X0_splittableNets 2 shC 34 [none, some (.int w1), none] [] σ (k w1 σ)) : ∀ (n : Nat) (w1 : Int32) (w2 : Int32) (σ : xSt), XP κi true m_X0_splittableNets 2 shC 4 [some (.ref 3), some (.int w1), some (.int w2)] [] σ (f_X0_splittableNets_4 k n w1 w2 σ) := by
  intro n
  induction n with
  | zero => intro w1 w2 σ; exact x_none
  | succ n ih =>
    intro w1 w2 σ
    rw [f_X0_splittableNets_4]
    refine x_iload_n dX0_splittableNets_4 rfl rfl ?_
    refine x_bipush (v := 6) dX0_splittableNets_5 rfl ?_
    refine x_icmp_ge 34 dX0_splittableNets_7 (by decide) (fun _ => ?_) (fun _ => ?_)
    · exact x_sub (x_le_n (x_le_s rfl (x_le_n x_le_e))) (hk _ _)
    · refine x_aload_n dX0_splittableNets_10 rfl rfl ?_
      refine x_iload_n dX0_splittableNets_11 rfl rfl ?_
      refine x_callV1i dX0_splittableNets_12 lc_RX0_27 (c_X0_columnsWith _ _) rfl rfl rfl rfl rfl (fun r1 s2 => ?_)
      refine x_callS1i dX0_splittableNets_15 lc_RX0_30 (c_J6_bitCount_0f7a4 _ _) rfl rfl (fun r3 s4 => ?_)
      refine x_iconst (v := 2) dX0_splittableNets_18 rfl ?_
      refine x_jn 28 (fun (v6 : Int32) => [some (.ref 3), some (.int v6), some (.int w2)]) (fun (v6 : Int32) => []) (fun v6 s7 => ?_) (fun j8 hj8 => ?_)
      · refine x_iinc dX0_splittableNets_28 rfl rfl rfl rfl ?_
        refine x_goto 4 dX0_splittableNets_31 (by decide) ?_
        exact x_sub (x_le_s rfl (x_le_s rfl (x_le_s rfl x_le_e))) (ih _ _ _)
      · refine x_icmp_le 28 dX0_splittableNets_19 (by decide) (fun _ => ?_) (fun _ => ?_)
        · exact x_sub (x_le_s rfl (x_le_s rfl (x_le_s rfl x_le_e))) (hj8 w1 _)
        · refine x_iload_n dX0_splittableNets_22 rfl rfl ?_
          refine x_iconst (v := 1) dX0_splittableNets_23 rfl ?_
          refine x_iload_n dX0_splittableNets_24 rfl rfl ?_
          refine x_ishl dX0_splittableNets_25 ?_
          refine x_ior dX0_splittableNets_26 ?_
          refine x_istore_nB dX0_splittableNets_27 rfl rfl rfl (fun x9 => ?_)
          exact x_sub (x_le_s rfl (x_le_s rfl (x_le_s rfl x_le_e))) (hj8 x9 _)

theorem c_X0_splittableNets (σ : xSt) : CON κi yX0_splittableNets m_X0_splittableNets true 2 shC [.ref 3] σ (f_X0_splittableNets σ) := by
  refine x_con (L := [some (.ref 3), none, none]) (by decide) rfl rfl rfl ?_
  unfold f_X0_splittableNets
  refine x_iconst (v := 0) dX0_splittableNets_0 rfl ?_
  refine x_istore_n dX0_splittableNets_1 rfl rfl rfl ?_
  refine x_iconst (v := 0) dX0_splittableNets_2 rfl ?_
  refine x_istore_n dX0_splittableNets_3 rfl rfl rfl ?_
  refine x_sub (x_le_s rfl (x_le_s rfl (x_le_s rfl x_le_e))) (t_X0_splittableNets_4 _ (fun e10 s11 => ?_) FU _ _ _)
  refine x_iload_n dX0_splittableNets_34 rfl rfl ?_
  exact x_iret dX0_splittableNets_35 rfl

theorem t_X1_takeAllAway_2 (k : xSt → Option (Unit × xSt)) (hk : ∀ (σ : xSt), XP κv true m_X1_takeAllAway 0 shC 21 [none, none] [] σ (k  σ)) : ∀ (n : Nat) (w1 : Int32) (σ : xSt), XP κv true m_X1_takeAllAway 0 shC 2 [some (.ref 28), some (.int w1)] [] σ (f_X1_takeAllAway_2 k n w1 σ) := by
  intro n
  induction n with
  | zero => intro w1 σ; exact x_none
  | succ n ih =>
    intro w1 σ
    rw [f_X1_takeAllAway_2]
    refine x_iload_n dX1_takeAllAway_2 rfl rfl ?_
    refine x_bipush (v := 14) dX1_takeAllAway_3 rfl ?_
    refine x_icmp_ge 21 dX1_takeAllAway_5 (by decide) (fun _ => ?_) (fun _ => ?_)
    · exact x_sub (x_le_n (x_le_n x_le_e)) (hk  _)
    · refine x_aload_n dX1_takeAllAway_8 rfl rfl ?_
      refine x_getR dX1_takeAllAway_9 lk_RX1_9 rfl rfl ?_
      refine x_iload_n dX1_takeAllAway_12 rfl rfl ?_
      refine x_iconst (v := -1) dX1_takeAllAway_13 rfl ?_
      refine x_iastB dX1_takeAllAway_14 rfl (fun s1 => ?_)
      refine x_iinc dX1_takeAllAway_15 rfl rfl rfl rfl ?_
      refine x_goto 2 dX1_takeAllAway_18 (by decide) ?_
      exact x_sub (x_le_s rfl (x_le_s rfl x_le_e)) (ih _ _)

theorem c_X1_takeAllAway (σ : xSt) : CON κv yX1_takeAllAway m_X1_takeAllAway true 0 shC [.ref 28] σ (f_X1_takeAllAway σ) := by
  refine x_con (L := [some (.ref 28), none]) (by decide) rfl rfl rfl ?_
  unfold f_X1_takeAllAway
  refine x_iconst (v := 0) dX1_takeAllAway_0 rfl ?_
  refine x_istore_n dX1_takeAllAway_1 rfl rfl rfl ?_
  refine x_sub (x_le_s rfl (x_le_s rfl x_le_e)) (t_X1_takeAllAway_2 _ (fun  s2 => ?_) FU _ _)
  exact x_vret dX1_takeAllAway_21 rfl

theorem t_X1_placed_4 (k : Int32 → xSt → Option (Int32 × xSt)) (hk : ∀ (w1 : Int32) (σ : xSt), XP κi true m_X1_placed 0 shC 29 [none, some (.int w1), none] [] σ (k w1 σ)) : ∀ (n : Nat) (w1 : Int32) (w2 : Int32) (σ : xSt), XP κi true m_X1_placed 0 shC 4 [some (.ref 28), some (.int w1), some (.int w2)] [] σ (f_X1_placed_4 k n w1 w2 σ) := by
  intro n
  induction n with
  | zero => intro w1 w2 σ; exact x_none
  | succ n ih =>
    intro w1 w2 σ
    rw [f_X1_placed_4]
    refine x_iload_n dX1_placed_4 rfl rfl ?_
    refine x_bipush (v := 14) dX1_placed_5 rfl ?_
    refine x_icmp_ge 29 dX1_placed_7 (by decide) (fun _ => ?_) (fun _ => ?_)
    · exact x_sub (x_le_n (x_le_s rfl (x_le_n x_le_e))) (hk _ _)
    · refine x_aload_n dX1_placed_10 rfl rfl ?_
      refine x_getR dX1_placed_11 lk_RX1_9 rfl rfl ?_
      refine x_iload_n dX1_placed_14 rfl rfl ?_
      refine x_iald dX1_placed_15 rfl ?_
      refine x_iconst (v := -1) dX1_placed_16 rfl ?_
      refine x_jn 23 (fun (v1 : Int32) => [some (.ref 28), some (.int v1), some (.int w2)]) (fun (v1 : Int32) => []) (fun v1 s2 => ?_) (fun j3 hj3 => ?_)
      · refine x_iinc dX1_placed_23 rfl rfl rfl rfl ?_
        refine x_goto 4 dX1_placed_26 (by decide) ?_
        exact x_sub (x_le_s rfl (x_le_s rfl (x_le_s rfl x_le_e))) (ih _ _ _)
      · refine x_icmp_eq 23 dX1_placed_17 (by decide) (fun _ => ?_) (fun _ => ?_)
        · exact x_sub (x_le_s rfl (x_le_s rfl (x_le_s rfl x_le_e))) (hj3 w1 _)
        · refine x_iinc dX1_placed_20 rfl rfl rfl rfl ?_
          exact x_sub (x_le_s rfl (x_le_s rfl (x_le_s rfl x_le_e))) (hj3 (w1 + 1) _)

theorem c_X1_placed (σ : xSt) : CON κi yX1_placed m_X1_placed true 0 shC [.ref 28] σ (f_X1_placed σ) := by
  refine x_con (L := [some (.ref 28), none, none]) (by decide) rfl rfl rfl ?_
  unfold f_X1_placed
  refine x_iconst (v := 0) dX1_placed_0 rfl ?_
  refine x_istore_n dX1_placed_1 rfl rfl rfl ?_
  refine x_iconst (v := 0) dX1_placed_2 rfl ?_
  refine x_istore_n dX1_placed_3 rfl rfl rfl ?_
  refine x_sub (x_le_s rfl (x_le_s rfl (x_le_s rfl x_le_e))) (t_X1_placed_4 _ (fun e4 s5 => ?_) FU _ _ _)
  refine x_iload_n dX1_placed_29 rfl rfl ?_
  exact x_iret dX1_placed_30 rfl

theorem t_X1_depth_4 (k : Int32 → xSt → Option (Int32 × xSt)) (hk : ∀ (w1 : Int32) (σ : xSt), XP κi true m_X1_depth 1 shC 27 [none, some (.int w1), none] [] σ (k w1 σ)) : ∀ (n : Nat) (w1 : Int32) (w2 : Int32) (σ : xSt), XP κi true m_X1_depth 1 shC 4 [some (.ref 28), some (.int w1), some (.int w2)] [] σ (f_X1_depth_4 k n w1 w2 σ) := by
  intro n
  induction n with
  | zero => intro w1 w2 σ; exact x_none
  | succ n ih =>
    intro w1 w2 σ
    rw [f_X1_depth_4]
    refine x_iload_n dX1_depth_4 rfl rfl ?_
    refine x_bipush (v := 14) dX1_depth_5 rfl ?_
    refine x_icmp_ge 27 dX1_depth_7 (by decide) (fun _ => ?_) (fun _ => ?_)
    · exact x_sub (x_le_n (x_le_s rfl (x_le_n x_le_e))) (hk _ _)
    · refine x_iload_n dX1_depth_10 rfl rfl ?_
      refine x_aload_n dX1_depth_11 rfl rfl ?_
      refine x_getR dX1_depth_12 lk_RX1_9 rfl rfl ?_
      refine x_iload_n dX1_depth_15 rfl rfl ?_
      refine x_iald dX1_depth_16 rfl ?_
      refine x_mmax dX1_depth_17 lm_RX1_18 rfl rfl ?_
      refine x_istore_nB dX1_depth_20 rfl rfl rfl (fun x1 => ?_)
      refine x_iinc dX1_depth_21 rfl rfl rfl rfl ?_
      refine x_goto 4 dX1_depth_24 (by decide) ?_
      exact x_sub (x_le_s rfl (x_le_s rfl (x_le_s rfl x_le_e))) (ih _ _ _)

theorem c_X1_depth (σ : xSt) : CON κi yX1_depth m_X1_depth true 1 shC [.ref 28] σ (f_X1_depth σ) := by
  refine x_con (L := [some (.ref 28), none, none]) (by decide) rfl rfl rfl ?_
  unfold f_X1_depth
  refine x_iconst (v := -1) dX1_depth_0 rfl ?_
  refine x_istore_n dX1_depth_1 rfl rfl rfl ?_
  refine x_iconst (v := 0) dX1_depth_2 rfl ?_
  refine x_istore_n dX1_depth_3 rfl rfl rfl ?_
  refine x_sub (x_le_s rfl (x_le_s rfl (x_le_s rfl x_le_e))) (t_X1_depth_4 _ (fun e2 s3 => ?_) FU _ _ _)
  refine x_iload_n dX1_depth_27 rfl rfl ?_
  refine x_iconst (v := 1) dX1_depth_28 rfl ?_
  refine x_iadd dX1_depth_29 ?_
  exact x_iret dX1_depth_30 rfl

theorem c_X3_overlap_5 (a1 : Int32) (a2 : Int32) (σ : xSt) : CON κi yX3_overlap m_X3_overlap true 0 shC [.ref 5, .int a1, .int a2] σ (f_X3_overlap 5 a1 a2 σ) := by
  refine x_con (L := [some (.ref 5), some (.int a1), some (.int a2), none]) (by decide) rfl rfl rfl ?_
  unfold f_X3_overlap
  refine x_aload_n dX3_overlap_0 rfl rfl ?_
  refine x_getR dX3_overlap_1 lk_RX3_15 rfl rfl ?_
  refine x_iload_n dX3_overlap_4 rfl rfl ?_
  refine x_iald dX3_overlap_5 rfl ?_
  refine x_aload_n dX3_overlap_6 rfl rfl ?_
  refine x_getR dX3_overlap_7 lk_RX3_18 rfl rfl ?_
  refine x_iload_n dX3_overlap_10 rfl rfl ?_
  refine x_iald dX3_overlap_11 rfl ?_
  refine x_jn 35 (fun (v4 : Int32) => [some (.ref 5), some (.int a1), some (.int a2), none]) (fun (v4 : Int32) => [.int v4]) (fun v4 s5 => ?_) (fun j6 hj6 => ?_)
  · refine x_istore_n dX3_overlap_35 rfl rfl rfl ?_
    refine x_iload_n dX3_overlap_36 rfl rfl ?_
    refine x_jn 60 (fun (v10 : Int32) => [none, none, none, none]) (fun (v10 : Int32) => [.int v10]) (fun v10 s11 => ?_) (fun j12 hj12 => ?_)
    · exact x_zret dX3_overlap_60 rfl
    · refine x_jn 59 (fun (v13 : Unit) => [none, none, none, none]) (fun (v13 : Unit) => []) (fun v13 s14 => ?_) (fun j15 hj15 => ?_)
      · refine x_iconst (v := 0) dX3_overlap_59 rfl ?_
        exact x_sub (x_le_n (x_le_n (x_le_n (x_le_n x_le_e)))) (hj12 0 _)
      · refine x_if_eq 59 dX3_overlap_37 (by decide) (fun _ => ?_) (fun _ => ?_)
        · exact x_sub (x_le_n (x_le_n (x_le_n (x_le_n x_le_e)))) (hj15 () _)
        · refine x_aload_n dX3_overlap_40 rfl rfl ?_
          refine x_getR dX3_overlap_41 lk_RX3_9 rfl rfl ?_
          refine x_iload_n dX3_overlap_44 rfl rfl ?_
          refine x_iald dX3_overlap_45 rfl ?_
          refine x_aload_n dX3_overlap_46 rfl rfl ?_
          refine x_getR dX3_overlap_47 lk_RX3_9 rfl rfl ?_
          refine x_iload_n dX3_overlap_50 rfl rfl ?_
          refine x_iald dX3_overlap_51 rfl ?_
          refine x_icmp_eq 59 dX3_overlap_52 (by decide) (fun _ => ?_) (fun _ => ?_)
          · exact x_sub (x_le_n (x_le_n (x_le_n (x_le_n x_le_e)))) (hj15 () _)
          · refine x_iconst (v := 1) dX3_overlap_55 rfl ?_
            refine x_goto 60 dX3_overlap_56 (by decide) ?_
            exact x_sub (x_le_n (x_le_n (x_le_n (x_le_n x_le_e)))) (hj12 1 _)
  · refine x_jn 34 (fun (v16 : Unit) => [some (.ref 5), some (.int a1), some (.int a2), none]) (fun (v16 : Unit) => []) (fun v16 s17 => ?_) (fun j18 hj18 => ?_)
    · refine x_iconst (v := 0) dX3_overlap_34 rfl ?_
      exact x_sub (x_le_s rfl (x_le_s rfl (x_le_s rfl (x_le_n x_le_e)))) (hj6 0 _)
    · refine x_icmp_gt 34 dX3_overlap_12 (by decide) (fun _ => ?_) (fun _ => ?_)
      · exact x_sub (x_le_s rfl (x_le_s rfl (x_le_s rfl (x_le_n x_le_e)))) (hj18 () _)
      · refine x_aload_n dX3_overlap_15 rfl rfl ?_
        refine x_getR dX3_overlap_16 lk_RX3_15 rfl rfl ?_
        refine x_iload_n dX3_overlap_19 rfl rfl ?_
        refine x_iald dX3_overlap_20 rfl ?_
        refine x_aload_n dX3_overlap_21 rfl rfl ?_
        refine x_getR dX3_overlap_22 lk_RX3_18 rfl rfl ?_
        refine x_iload_n dX3_overlap_25 rfl rfl ?_
        refine x_iald dX3_overlap_26 rfl ?_
        refine x_icmp_gt 34 dX3_overlap_27 (by decide) (fun _ => ?_) (fun _ => ?_)
        · exact x_sub (x_le_s rfl (x_le_s rfl (x_le_s rfl (x_le_n x_le_e)))) (hj18 () _)
        · refine x_iconst (v := 1) dX3_overlap_30 rfl ?_
          refine x_goto 35 dX3_overlap_31 (by decide) ?_
          exact x_sub (x_le_s rfl (x_le_s rfl (x_le_s rfl (x_le_n x_le_e)))) (hj6 1 _)

theorem c_X3_isAbove_5 (a1 : Int32) (a2 : Int32) (σ : xSt) : CON κi yX3_isAbove m_X3_isAbove true 0 shC [.ref 5, .int a1, .int a2] σ (f_X3_isAbove 5 a1 a2 σ) := by
  refine x_con (L := [some (.ref 5), some (.int a1), some (.int a2)]) (by decide) rfl rfl rfl ?_
  unfold f_X3_isAbove
  refine x_aload_n dX3_isAbove_0 rfl rfl ?_
  refine x_getR dX3_isAbove_1 lk_RX3_21 rfl rfl ?_
  refine x_iload_n dX3_isAbove_4 rfl rfl ?_
  refine x_iald dX3_isAbove_5 rfl ?_
  refine x_iconst (v := 1) dX3_isAbove_6 rfl ?_
  refine x_iload_n dX3_isAbove_7 rfl rfl ?_
  refine x_ishl dX3_isAbove_8 ?_
  refine x_iand dX3_isAbove_9 ?_
  refine x_jn 18 (fun (v1 : Int32) => [none, none, none]) (fun (v1 : Int32) => [.int v1]) (fun v1 s2 => ?_) (fun j3 hj3 => ?_)
  · exact x_zret dX3_isAbove_18 rfl
  · refine x_if_eq 17 dX3_isAbove_10 (by decide) (fun _ => ?_) (fun _ => ?_)
    · refine x_iconst (v := 0) dX3_isAbove_17 rfl ?_
      exact x_sub (x_le_n (x_le_n (x_le_n x_le_e))) (hj3 0 _)
    · refine x_iconst (v := 1) dX3_isAbove_13 rfl ?_
      refine x_goto 18 dX3_isAbove_14 (by decide) ?_
      exact x_sub (x_le_n (x_le_n (x_le_n x_le_e))) (hj3 1 _)

theorem t_X1_fitsBefore_2 (w2 : Int32) (k : xSt → Option (Int32 × xSt)) (hk : ∀ (σ : xSt), XP κi true m_X1_fitsBefore 1 shC 123 [none, none, none, none, none, none, none] [] σ (k  σ)) : ∀ (n : Nat) (w3 : Int32) (σ : xSt), XP κi true m_X1_fitsBefore 1 shC 2 [some (.ref 28), some (.ref 5), some (.int w2), some (.int w3), none, none, none] [] σ (f_X1_fitsBefore_2 w2 k n w3 σ) := by
  intro n
  induction n with
  | zero => intro w3 σ; exact x_none
  | succ n ih =>
    intro w3 σ
    rw [f_X1_fitsBefore_2]
    refine x_iload_n dX1_fitsBefore_2 rfl rfl ?_
    refine x_iload_n dX1_fitsBefore_3 rfl rfl ?_
    refine x_icmp_ge 123 dX1_fitsBefore_4 (by decide) (fun _ => ?_) (fun _ => ?_)
    · exact x_sub (x_le_n (x_le_n (x_le_n (x_le_n (x_le_n (x_le_n (x_le_n x_le_e))))))) (hk  _)
    · refine x_aload_n dX1_fitsBefore_7 rfl rfl ?_
      refine x_getR dX1_fitsBefore_8 lk_RX1_9 rfl rfl ?_
      refine x_iload_n dX1_fitsBefore_11 rfl rfl ?_
      refine x_iald dX1_fitsBefore_12 rfl ?_
      refine x_aload_n dX1_fitsBefore_13 rfl rfl ?_
      refine x_getR dX1_fitsBefore_14 lk_RX1_9 rfl rfl ?_
      refine x_iload_n dX1_fitsBefore_17 rfl rfl ?_
      refine x_iald dX1_fitsBefore_18 rfl ?_
      refine x_jn 36 (fun (v8 : Int32) => [some (.ref 28), some (.ref 5), some (.int w2), some (.int w3), none, none, none]) (fun (v8 : Int32) => [.int v8]) (fun v8 s9 => ?_) (fun j10 hj10 => ?_)
      · refine x_istore dX1_fitsBefore_36 rfl rfl ?_
        refine x_aload_n dX1_fitsBefore_38 rfl rfl ?_
        refine x_getR dX1_fitsBefore_39 lk_RX1_9 rfl rfl ?_
        refine x_iload_n dX1_fitsBefore_42 rfl rfl ?_
        refine x_iald dX1_fitsBefore_43 rfl ?_
        refine x_aload_n dX1_fitsBefore_44 rfl rfl ?_
        refine x_getR dX1_fitsBefore_45 lk_RX1_9 rfl rfl ?_
        refine x_iload_n dX1_fitsBefore_48 rfl rfl ?_
        refine x_iald dX1_fitsBefore_49 rfl ?_
        refine x_jn 67 (fun (v18 : Int32) => [some (.ref 28), some (.ref 5), some (.int w2), some (.int w3), some (.int v8), none, none]) (fun (v18 : Int32) => [.int v18]) (fun v18 s19 => ?_) (fun j20 hj20 => ?_)
        · refine x_istore dX1_fitsBefore_67 rfl rfl ?_
          refine x_aload_n dX1_fitsBefore_69 rfl rfl ?_
          refine x_getR dX1_fitsBefore_70 lk_RX1_9 rfl rfl ?_
          refine x_iload_n dX1_fitsBefore_73 rfl rfl ?_
          refine x_iald dX1_fitsBefore_74 rfl ?_
          refine x_aload_n dX1_fitsBefore_75 rfl rfl ?_
          refine x_getR dX1_fitsBefore_76 lk_RX1_9 rfl rfl ?_
          refine x_iload_n dX1_fitsBefore_79 rfl rfl ?_
          refine x_iald dX1_fitsBefore_80 rfl ?_
          refine x_jn 98 (fun (v28 : Int32) => [some (.ref 28), some (.ref 5), some (.int w2), some (.int w3), some (.int v8), some (.int v18), none]) (fun (v28 : Int32) => [.int v28]) (fun v28 s29 => ?_) (fun j30 hj30 => ?_)
          · refine x_istore dX1_fitsBefore_98 rfl rfl ?_
            refine x_iload dX1_fitsBefore_100 rfl ?_
            refine x_jn 115 (fun (v31 : Unit) => [none, none, none, none, none, none, none]) (fun (v31 : Unit) => []) (fun v31 s32 => ?_) (fun j33 hj33 => ?_)
            · refine x_iconst (v := 0) dX1_fitsBefore_115 rfl ?_
              exact x_zret dX1_fitsBefore_116 rfl
            · refine x_if_ne 115 dX1_fitsBefore_102 (by decide) (fun _ => ?_) (fun _ => ?_)
              · exact x_sub (x_le_n (x_le_n (x_le_n (x_le_n (x_le_n (x_le_n (x_le_n x_le_e))))))) (hj33 () _)
              · refine x_iload dX1_fitsBefore_105 rfl ?_
                refine x_if_ne 115 dX1_fitsBefore_107 (by decide) (fun _ => ?_) (fun _ => ?_)
                · exact x_sub (x_le_n (x_le_n (x_le_n (x_le_n (x_le_n (x_le_n (x_le_n x_le_e))))))) (hj33 () _)
                · refine x_iload dX1_fitsBefore_110 rfl ?_
                  refine x_if_eq 117 dX1_fitsBefore_112 (by decide) (fun _ => ?_) (fun _ => ?_)
                  · refine x_iinc dX1_fitsBefore_117 rfl rfl rfl rfl ?_
                    refine x_goto 2 dX1_fitsBefore_120 (by decide) ?_
                    exact x_sub (x_le_s rfl (x_le_s rfl (x_le_s rfl (x_le_s rfl (x_le_n (x_le_n (x_le_n x_le_e))))))) (ih _ _)
                  · exact x_sub (x_le_n (x_le_n (x_le_n (x_le_n (x_le_n (x_le_n (x_le_n x_le_e))))))) (hj33 () _)
          · refine x_jn 97 (fun (v36 : Unit) => [some (.ref 28), some (.ref 5), some (.int w2), some (.int w3), some (.int v8), some (.int v18), none]) (fun (v36 : Unit) => []) (fun v36 s37 => ?_) (fun j38 hj38 => ?_)
            · refine x_iconst (v := 0) dX1_fitsBefore_97 rfl ?_
              exact x_sub (x_le_s rfl (x_le_s rfl (x_le_s rfl (x_le_s rfl (x_le_s rfl (x_le_s rfl (x_le_n x_le_e))))))) (hj30 0 _)
            · refine x_icmp_lt 97 dX1_fitsBefore_81 (by decide) (fun _ => ?_) (fun _ => ?_)
              · exact x_sub (x_le_s rfl (x_le_s rfl (x_le_s rfl (x_le_s rfl (x_le_s rfl (x_le_s rfl (x_le_n x_le_e))))))) (hj38 () _)
              · refine x_aload_n dX1_fitsBefore_84 rfl rfl ?_
                refine x_iload_n dX1_fitsBefore_85 rfl rfl ?_
                refine x_iload_n dX1_fitsBefore_86 rfl rfl ?_
                refine x_callV2i dX1_fitsBefore_87 lc_RX1_38 (c_X3_isAbove_5 _ _ _) rfl rfl rfl rfl rfl (fun r39 s40 => ?_)
                refine x_if_eq 97 dX1_fitsBefore_90 (by decide) (fun _ => ?_) (fun _ => ?_)
                · exact x_sub (x_le_s rfl (x_le_s rfl (x_le_s rfl (x_le_s rfl (x_le_s rfl (x_le_s rfl (x_le_n x_le_e))))))) (hj38 () _)
                · refine x_iconst (v := 1) dX1_fitsBefore_93 rfl ?_
                  refine x_goto 98 dX1_fitsBefore_94 (by decide) ?_
                  exact x_sub (x_le_s rfl (x_le_s rfl (x_le_s rfl (x_le_s rfl (x_le_s rfl (x_le_s rfl (x_le_n x_le_e))))))) (hj30 1 _)
        · refine x_jn 66 (fun (v43 : Unit) => [some (.ref 28), some (.ref 5), some (.int w2), some (.int w3), some (.int v8), none, none]) (fun (v43 : Unit) => []) (fun v43 s44 => ?_) (fun j45 hj45 => ?_)
          · refine x_iconst (v := 0) dX1_fitsBefore_66 rfl ?_
            exact x_sub (x_le_s rfl (x_le_s rfl (x_le_s rfl (x_le_s rfl (x_le_s rfl (x_le_n (x_le_n x_le_e))))))) (hj20 0 _)
          · refine x_icmp_gt 66 dX1_fitsBefore_50 (by decide) (fun _ => ?_) (fun _ => ?_)
            · exact x_sub (x_le_s rfl (x_le_s rfl (x_le_s rfl (x_le_s rfl (x_le_s rfl (x_le_n (x_le_n x_le_e))))))) (hj45 () _)
            · refine x_aload_n dX1_fitsBefore_53 rfl rfl ?_
              refine x_iload_n dX1_fitsBefore_54 rfl rfl ?_
              refine x_iload_n dX1_fitsBefore_55 rfl rfl ?_
              refine x_callV2i dX1_fitsBefore_56 lc_RX1_38 (c_X3_isAbove_5 _ _ _) rfl rfl rfl rfl rfl (fun r46 s47 => ?_)
              refine x_if_eq 66 dX1_fitsBefore_59 (by decide) (fun _ => ?_) (fun _ => ?_)
              · exact x_sub (x_le_s rfl (x_le_s rfl (x_le_s rfl (x_le_s rfl (x_le_s rfl (x_le_n (x_le_n x_le_e))))))) (hj45 () _)
              · refine x_iconst (v := 1) dX1_fitsBefore_62 rfl ?_
                refine x_goto 67 dX1_fitsBefore_63 (by decide) ?_
                exact x_sub (x_le_s rfl (x_le_s rfl (x_le_s rfl (x_le_s rfl (x_le_s rfl (x_le_n (x_le_n x_le_e))))))) (hj20 1 _)
      · refine x_jn 35 (fun (v50 : Unit) => [some (.ref 28), some (.ref 5), some (.int w2), some (.int w3), none, none, none]) (fun (v50 : Unit) => []) (fun v50 s51 => ?_) (fun j52 hj52 => ?_)
        · refine x_iconst (v := 0) dX1_fitsBefore_35 rfl ?_
          exact x_sub (x_le_s rfl (x_le_s rfl (x_le_s rfl (x_le_s rfl (x_le_n (x_le_n (x_le_n x_le_e))))))) (hj10 0 _)
        · refine x_icmp_ne 35 dX1_fitsBefore_19 (by decide) (fun _ => ?_) (fun _ => ?_)
          · exact x_sub (x_le_s rfl (x_le_s rfl (x_le_s rfl (x_le_s rfl (x_le_n (x_le_n (x_le_n x_le_e))))))) (hj52 () _)
          · refine x_aload_n dX1_fitsBefore_22 rfl rfl ?_
            refine x_iload_n dX1_fitsBefore_23 rfl rfl ?_
            refine x_iload_n dX1_fitsBefore_24 rfl rfl ?_
            refine x_callV2i dX1_fitsBefore_25 lc_RX1_34 (c_X3_overlap_5 _ _ _) rfl rfl rfl rfl rfl (fun r53 s54 => ?_)
            refine x_if_eq 35 dX1_fitsBefore_28 (by decide) (fun _ => ?_) (fun _ => ?_)
            · exact x_sub (x_le_s rfl (x_le_s rfl (x_le_s rfl (x_le_s rfl (x_le_n (x_le_n (x_le_n x_le_e))))))) (hj52 () _)
            · refine x_iconst (v := 1) dX1_fitsBefore_31 rfl ?_
              refine x_goto 36 dX1_fitsBefore_32 (by decide) ?_
              exact x_sub (x_le_s rfl (x_le_s rfl (x_le_s rfl (x_le_s rfl (x_le_n (x_le_n (x_le_n x_le_e))))))) (hj10 1 _)

theorem c_X1_fitsBefore (a2 : Int32) (σ : xSt) : CON κi yX1_fitsBefore m_X1_fitsBefore true 1 shC [.ref 28, .ref 5, .int a2] σ (f_X1_fitsBefore a2 σ) := by
  refine x_con (L := [some (.ref 28), some (.ref 5), some (.int a2), none, none, none, none]) (by decide) rfl rfl rfl ?_
  unfold f_X1_fitsBefore
  refine x_iconst (v := 0) dX1_fitsBefore_0 rfl ?_
  refine x_istore_n dX1_fitsBefore_1 rfl rfl rfl ?_
  refine x_sub (x_le_s rfl (x_le_s rfl (x_le_s rfl (x_le_s rfl (x_le_n (x_le_n (x_le_n x_le_e))))))) (t_X1_fitsBefore_2 _ _ (fun  s55 => ?_) FU _ _)
  refine x_iconst (v := 1) dX1_fitsBefore_123 rfl ?_
  exact x_zret dX1_fitsBefore_124 rfl

theorem t_X1_isValid_2 (k : xSt → Option (Int32 × xSt)) (hk : ∀ (σ : xSt), XP κi true m_X1_isValid 2 shC 37 [none, none, none] [] σ (k  σ)) : ∀ (n : Nat) (w2 : Int32) (σ : xSt), XP κi true m_X1_isValid 2 shC 2 [some (.ref 28), some (.ref 5), some (.int w2)] [] σ (f_X1_isValid_2 k n w2 σ) := by
  intro n
  induction n with
  | zero => intro w2 σ; exact x_none
  | succ n ih =>
    intro w2 σ
    rw [f_X1_isValid_2]
    refine x_iload_n dX1_isValid_2 rfl rfl ?_
    refine x_aload_n dX1_isValid_3 rfl rfl ?_
    refine x_getI dX1_isValid_4 lk_RX1_24 rfl rfl ?_
    refine x_icmp_ge 37 dX1_isValid_7 (by decide) (fun _ => ?_) (fun _ => ?_)
    · exact x_sub (x_le_n (x_le_n (x_le_n x_le_e))) (hk  _)
    · refine x_aload_n dX1_isValid_10 rfl rfl ?_
      refine x_getR dX1_isValid_11 lk_RX1_9 rfl rfl ?_
      refine x_iload_n dX1_isValid_14 rfl rfl ?_
      refine x_iald dX1_isValid_15 rfl ?_
      refine x_iconst (v := -1) dX1_isValid_16 rfl ?_
      refine x_jn 29 (fun (v3 : Unit) => [none, none, none]) (fun (v3 : Unit) => []) (fun v3 s4 => ?_) (fun j5 hj5 => ?_)
      · refine x_iconst (v := 0) dX1_isValid_29 rfl ?_
        exact x_zret dX1_isValid_30 rfl
      · refine x_icmp_eq 29 dX1_isValid_17 (by decide) (fun _ => ?_) (fun _ => ?_)
        · exact x_sub (x_le_n (x_le_n (x_le_n x_le_e))) (hj5 () _)
        · refine x_aload_n dX1_isValid_20 rfl rfl ?_
          refine x_aload_n dX1_isValid_21 rfl rfl ?_
          refine x_iload_n dX1_isValid_22 rfl rfl ?_
          refine x_callV2i dX1_isValid_23 lc_RX1_30 (c_X1_fitsBefore _ _) rfl rfl rfl rfl rfl (fun r6 s7 => ?_)
          refine x_if_ne 31 dX1_isValid_26 (by decide) (fun _ => ?_) (fun _ => ?_)
          · refine x_iinc dX1_isValid_31 rfl rfl rfl rfl ?_
            refine x_goto 2 dX1_isValid_34 (by decide) ?_
            exact x_sub (x_le_s rfl (x_le_s rfl (x_le_s rfl x_le_e))) (ih _ _)
          · exact x_sub (x_le_n (x_le_n (x_le_n x_le_e))) (hj5 () _)

theorem c_X1_isValid (σ : xSt) : CON κi yX1_isValid m_X1_isValid true 2 shC [.ref 28, .ref 5] σ (f_X1_isValid σ) := by
  refine x_con (L := [some (.ref 28), some (.ref 5), none]) (by decide) rfl rfl rfl ?_
  unfold f_X1_isValid
  refine x_iconst (v := 0) dX1_isValid_0 rfl ?_
  refine x_istore_n dX1_isValid_1 rfl rfl rfl ?_
  refine x_sub (x_le_s rfl (x_le_s rfl (x_le_s rfl x_le_e))) (t_X1_isValid_2 _ (fun  s8 => ?_) FU _ _)
  refine x_iconst (v := 1) dX1_isValid_37 rfl ?_
  exact x_zret dX1_isValid_38 rfl

theorem c_X3_covers_5 (a1 : Int32) (a2 : Int32) (σ : xSt) : CON κi yX3_covers m_X3_covers true 0 shC [.ref 5, .int a1, .int a2] σ (f_X3_covers 5 a1 a2 σ) := by
  refine x_con (L := [some (.ref 5), some (.int a1), some (.int a2)]) (by decide) rfl rfl rfl ?_
  unfold f_X3_covers
  refine x_aload_n dX3_covers_0 rfl rfl ?_
  refine x_getR dX3_covers_1 lk_RX3_15 rfl rfl ?_
  refine x_iload_n dX3_covers_4 rfl rfl ?_
  refine x_iald dX3_covers_5 rfl ?_
  refine x_iload_n dX3_covers_6 rfl rfl ?_
  refine x_jn 25 (fun (v4 : Int32) => [none, none, none]) (fun (v4 : Int32) => [.int v4]) (fun v4 s5 => ?_) (fun j6 hj6 => ?_)
  · exact x_zret dX3_covers_25 rfl
  · refine x_jn 24 (fun (v7 : Unit) => [none, none, none]) (fun (v7 : Unit) => []) (fun v7 s8 => ?_) (fun j9 hj9 => ?_)
    · refine x_iconst (v := 0) dX3_covers_24 rfl ?_
      exact x_sub (x_le_n (x_le_n (x_le_n x_le_e))) (hj6 0 _)
    · refine x_icmp_gt 24 dX3_covers_7 (by decide) (fun _ => ?_) (fun _ => ?_)
      · exact x_sub (x_le_n (x_le_n (x_le_n x_le_e))) (hj9 () _)
      · refine x_iload_n dX3_covers_10 rfl rfl ?_
        refine x_aload_n dX3_covers_11 rfl rfl ?_
        refine x_getR dX3_covers_12 lk_RX3_18 rfl rfl ?_
        refine x_iload_n dX3_covers_15 rfl rfl ?_
        refine x_iald dX3_covers_16 rfl ?_
        refine x_icmp_gt 24 dX3_covers_17 (by decide) (fun _ => ?_) (fun _ => ?_)
        · exact x_sub (x_le_n (x_le_n (x_le_n x_le_e))) (hj9 () _)
        · refine x_iconst (v := 1) dX3_covers_20 rfl ?_
          refine x_goto 25 dX3_covers_21 (by decide) ?_
          exact x_sub (x_le_n (x_le_n (x_le_n x_le_e))) (hj6 1 _)

theorem t_X1_horizontalNets_6 (w2 : Int32) (w3 : Int32) (k : Int32 → xSt → Option (Int32 × xSt)) (hk : ∀ (w4 : Int32) (σ : xSt), XP κi true m_X1_horizontalNets 1 shC 56 [none, none, none, none, some (.int w4), none] [] σ (k w4 σ)) : ∀ (n : Nat) (w4 : Int32) (w5 : Int32) (σ : xSt), XP κi true m_X1_horizontalNets 1 shC 6 [some (.ref 28), some (.ref 5), some (.int w2), some (.int w3), some (.int w4), some (.int w5)] [] σ (f_X1_horizontalNets_6 w2 w3 k n w4 w5 σ) := by
  intro n
  induction n with
  | zero => intro w4 w5 σ; exact x_none
  | succ n ih =>
    intro w4 w5 σ
    rw [f_X1_horizontalNets_6]
    refine x_iload dX1_horizontalNets_6 rfl ?_
    refine x_aload_n dX1_horizontalNets_8 rfl rfl ?_
    refine x_getI dX1_horizontalNets_9 lk_RX1_24 rfl rfl ?_
    refine x_icmp_ge 56 dX1_horizontalNets_12 (by decide) (fun _ => ?_) (fun _ => ?_)
    · exact x_sub (x_le_n (x_le_n (x_le_n (x_le_n (x_le_s rfl (x_le_n x_le_e)))))) (hk _ _)
    · refine x_aload_n dX1_horizontalNets_15 rfl rfl ?_
      refine x_getR dX1_horizontalNets_16 lk_RX1_9 rfl rfl ?_
      refine x_iload dX1_horizontalNets_19 rfl ?_
      refine x_iald dX1_horizontalNets_21 rfl ?_
      refine x_iload_n dX1_horizontalNets_22 rfl rfl ?_
      refine x_jn 50 (fun (v4 : Int32) => [some (.ref 28), some (.ref 5), some (.int w2), some (.int w3), some (.int v4), some (.int w5)]) (fun (v4 : Int32) => []) (fun v4 s5 => ?_) (fun j6 hj6 => ?_)
      · refine x_iinc dX1_horizontalNets_50 rfl rfl rfl rfl ?_
        refine x_goto 6 dX1_horizontalNets_53 (by decide) ?_
        exact x_sub (x_le_s rfl (x_le_s rfl (x_le_s rfl (x_le_s rfl (x_le_s rfl (x_le_s rfl x_le_e)))))) (ih _ _ _)
      · refine x_icmp_ne 50 dX1_horizontalNets_23 (by decide) (fun _ => ?_) (fun _ => ?_)
        · exact x_sub (x_le_s rfl (x_le_s rfl (x_le_s rfl (x_le_s rfl (x_le_s rfl (x_le_s rfl x_le_e)))))) (hj6 w4 _)
        · refine x_aload_n dX1_horizontalNets_26 rfl rfl ?_
          refine x_iload dX1_horizontalNets_27 rfl ?_
          refine x_iload_n dX1_horizontalNets_29 rfl rfl ?_
          refine x_callV2i dX1_horizontalNets_30 lc_RX1_41 (c_X3_covers_5 _ _ _) rfl rfl rfl rfl rfl (fun r7 s8 => ?_)
          refine x_if_eq 50 dX1_horizontalNets_33 (by decide) (fun _ => ?_) (fun _ => ?_)
          · exact x_sub (x_le_s rfl (x_le_s rfl (x_le_s rfl (x_le_s rfl (x_le_s rfl (x_le_s rfl x_le_e)))))) (hj6 w4 _)
          · refine x_iload dX1_horizontalNets_36 rfl ?_
            refine x_iconst (v := 1) dX1_horizontalNets_38 rfl ?_
            refine x_aload_n dX1_horizontalNets_39 rfl rfl ?_
            refine x_getR dX1_horizontalNets_40 lk_RX1_44 rfl rfl ?_
            refine x_iload dX1_horizontalNets_43 rfl ?_
            refine x_iald dX1_horizontalNets_45 rfl ?_
            refine x_ishl dX1_horizontalNets_46 ?_
            refine x_ior dX1_horizontalNets_47 ?_
            refine x_istoreB dX1_horizontalNets_48 rfl rfl (fun x9 => ?_)
            exact x_sub (x_le_s rfl (x_le_s rfl (x_le_s rfl (x_le_s rfl (x_le_s rfl (x_le_s rfl x_le_e)))))) (hj6 x9 _)

theorem c_X1_horizontalNets (a2 : Int32) (a3 : Int32) (σ : xSt) : CON κi yX1_horizontalNets m_X1_horizontalNets true 1 shC [.ref 28, .ref 5, .int a2, .int a3] σ (f_X1_horizontalNets a2 a3 σ) := by
  refine x_con (L := [some (.ref 28), some (.ref 5), some (.int a2), some (.int a3), none, none]) (by decide) rfl rfl rfl ?_
  unfold f_X1_horizontalNets
  refine x_iconst (v := 0) dX1_horizontalNets_0 rfl ?_
  refine x_istore dX1_horizontalNets_1 rfl rfl ?_
  refine x_iconst (v := 0) dX1_horizontalNets_3 rfl ?_
  refine x_istore dX1_horizontalNets_4 rfl rfl ?_
  refine x_sub (x_le_s rfl (x_le_s rfl (x_le_s rfl (x_le_s rfl (x_le_s rfl (x_le_s rfl x_le_e)))))) (t_X1_horizontalNets_6 _ _ _ (fun e10 s11 => ?_) FU _ _ _)
  refine x_iload dX1_horizontalNets_56 rfl ?_
  exact x_iret dX1_horizontalNets_58 rfl

theorem c_X3_isJoined_5 (a1 : Int32) (a2 : Int32) (a3 : Int32) (σ : xSt) : CON κi yX3_isJoined m_X3_isJoined true 0 shC [.ref 5, .int a1, .int a2, .int a3] σ (f_X3_isJoined 5 a1 a2 a3 σ) := by
  refine x_con (L := [some (.ref 5), some (.int a1), some (.int a2), some (.int a3)]) (by decide) rfl rfl rfl ?_
  unfold f_X3_isJoined
  refine x_aload_n dX3_isJoined_0 rfl rfl ?_
  refine x_getR dX3_isJoined_1 lk_RX3_9 rfl rfl ?_
  refine x_iload_n dX3_isJoined_4 rfl rfl ?_
  refine x_iald dX3_isJoined_5 rfl ?_
  refine x_iload_n dX3_isJoined_6 rfl rfl ?_
  refine x_jn 28 (fun (v4 : Int32) => [none, none, none, none]) (fun (v4 : Int32) => [.int v4]) (fun v4 s5 => ?_) (fun j6 hj6 => ?_)
  · exact x_zret dX3_isJoined_28 rfl
  · refine x_jn 27 (fun (v7 : Unit) => [none, none, none, none]) (fun (v7 : Unit) => []) (fun v7 s8 => ?_) (fun j9 hj9 => ?_)
    · refine x_iconst (v := 0) dX3_isJoined_27 rfl ?_
      exact x_sub (x_le_n (x_le_n (x_le_n (x_le_n x_le_e)))) (hj6 0 _)
    · refine x_icmp_ne 27 dX3_isJoined_7 (by decide) (fun _ => ?_) (fun _ => ?_)
      · exact x_sub (x_le_n (x_le_n (x_le_n (x_le_n x_le_e)))) (hj9 () _)
      · refine x_aload_n dX3_isJoined_10 rfl rfl ?_
        refine x_getR dX3_isJoined_11 lk_RX3_33 rfl rfl ?_
        refine x_iload_n dX3_isJoined_14 rfl rfl ?_
        refine x_iald dX3_isJoined_15 rfl ?_
        refine x_iconst (v := 1) dX3_isJoined_16 rfl ?_
        refine x_iload_n dX3_isJoined_17 rfl rfl ?_
        refine x_ishl dX3_isJoined_18 ?_
        refine x_iand dX3_isJoined_19 ?_
        refine x_if_eq 27 dX3_isJoined_20 (by decide) (fun _ => ?_) (fun _ => ?_)
        · exact x_sub (x_le_n (x_le_n (x_le_n (x_le_n x_le_e)))) (hj9 () _)
        · refine x_iconst (v := 1) dX3_isJoined_23 rfl ?_
          refine x_goto 28 dX3_isJoined_24 (by decide) ?_
          exact x_sub (x_le_n (x_le_n (x_le_n (x_le_n x_le_e)))) (hj6 1 _)

theorem c_X3_isJoined_14 (a1 : Int32) (a2 : Int32) (a3 : Int32) (σ : xSt) : CON κi yX3_isJoined m_X3_isJoined true 0 shC [.ref 14, .int a1, .int a2, .int a3] σ (f_X3_isJoined 14 a1 a2 a3 σ) := by
  refine x_con (L := [some (.ref 14), some (.int a1), some (.int a2), some (.int a3)]) (by decide) rfl rfl rfl ?_
  unfold f_X3_isJoined
  refine x_aload_n dX3_isJoined_0 rfl rfl ?_
  refine x_getR dX3_isJoined_1 lk_RX3_9 rfl rfl ?_
  refine x_iload_n dX3_isJoined_4 rfl rfl ?_
  refine x_iald dX3_isJoined_5 rfl ?_
  refine x_iload_n dX3_isJoined_6 rfl rfl ?_
  refine x_jn 28 (fun (v4 : Int32) => [none, none, none, none]) (fun (v4 : Int32) => [.int v4]) (fun v4 s5 => ?_) (fun j6 hj6 => ?_)
  · exact x_zret dX3_isJoined_28 rfl
  · refine x_jn 27 (fun (v7 : Unit) => [none, none, none, none]) (fun (v7 : Unit) => []) (fun v7 s8 => ?_) (fun j9 hj9 => ?_)
    · refine x_iconst (v := 0) dX3_isJoined_27 rfl ?_
      exact x_sub (x_le_n (x_le_n (x_le_n (x_le_n x_le_e)))) (hj6 0 _)
    · refine x_icmp_ne 27 dX3_isJoined_7 (by decide) (fun _ => ?_) (fun _ => ?_)
      · exact x_sub (x_le_n (x_le_n (x_le_n (x_le_n x_le_e)))) (hj9 () _)
      · refine x_aload_n dX3_isJoined_10 rfl rfl ?_
        refine x_getR dX3_isJoined_11 lk_RX3_33 rfl rfl ?_
        refine x_iload_n dX3_isJoined_14 rfl rfl ?_
        refine x_iald dX3_isJoined_15 rfl ?_
        refine x_iconst (v := 1) dX3_isJoined_16 rfl ?_
        refine x_iload_n dX3_isJoined_17 rfl rfl ?_
        refine x_ishl dX3_isJoined_18 ?_
        refine x_iand dX3_isJoined_19 ?_
        refine x_if_eq 27 dX3_isJoined_20 (by decide) (fun _ => ?_) (fun _ => ?_)
        · exact x_sub (x_le_n (x_le_n (x_le_n (x_le_n x_le_e)))) (hj9 () _)
        · refine x_iconst (v := 1) dX3_isJoined_23 rfl ?_
          refine x_goto 28 dX3_isJoined_24 (by decide) ?_
          exact x_sub (x_le_n (x_le_n (x_le_n (x_le_n x_le_e)))) (hj6 1 _)

theorem t_X1_wireFromTop_3 (w2 : Int32) (w3 : Int32) (w4 : Int32) (k : xSt → Option (Int32 × xSt)) (hk : ∀ (σ : xSt), XP κi true m_X1_wireFromTop 1 shC 43 [none, none, none, none, none, none] [] σ (k  σ)) : ∀ (n : Nat) (w5 : Int32) (σ : xSt), XP κi true m_X1_wireFromTop 1 shC 3 [some (.ref 28), some (.ref 5), some (.int w2), some (.int w3), some (.int w4), some (.int w5)] [] σ (f_X1_wireFromTop_3 w2 w3 w4 k n w5 σ) := by
  intro n
  induction n with
  | zero => intro w5 σ; exact x_none
  | succ n ih =>
    intro w5 σ
    rw [f_X1_wireFromTop_3]
    refine x_iload dX1_wireFromTop_3 rfl ?_
    refine x_aload_n dX1_wireFromTop_5 rfl rfl ?_
    refine x_getI dX1_wireFromTop_6 lk_RX1_24 rfl rfl ?_
    refine x_icmp_ge 43 dX1_wireFromTop_9 (by decide) (fun _ => ?_) (fun _ => ?_)
    · exact x_sub (x_le_n (x_le_n (x_le_n (x_le_n (x_le_n (x_le_n x_le_e)))))) (hk  _)
    · refine x_aload_n dX1_wireFromTop_12 rfl rfl ?_
      refine x_iload dX1_wireFromTop_13 rfl ?_
      refine x_iload_n dX1_wireFromTop_15 rfl rfl ?_
      refine x_iload dX1_wireFromTop_16 rfl ?_
      refine x_callV3i dX1_wireFromTop_18 lc_RX1_59 (c_X3_isJoined_5 _ _ _ _) rfl rfl rfl rfl rfl (fun r1 s2 => ?_)
      refine x_jn 37 (fun (v3 : Unit) => [some (.ref 28), some (.ref 5), some (.int w2), some (.int w3), some (.int w4), some (.int w5)]) (fun (v3 : Unit) => []) (fun v3 s4 => ?_) (fun j5 hj5 => ?_)
      · refine x_iinc dX1_wireFromTop_37 rfl rfl rfl rfl ?_
        refine x_goto 3 dX1_wireFromTop_40 (by decide) ?_
        exact x_sub (x_le_s rfl (x_le_s rfl (x_le_s rfl (x_le_s rfl (x_le_s rfl (x_le_s rfl x_le_e)))))) (ih _ _)
      · refine x_if_eq 37 dX1_wireFromTop_21 (by decide) (fun _ => ?_) (fun _ => ?_)
        · exact x_sub (x_le_s rfl (x_le_s rfl (x_le_s rfl (x_le_s rfl (x_le_s rfl (x_le_s rfl x_le_e)))))) (hj5 () _)
        · refine x_aload_n dX1_wireFromTop_24 rfl rfl ?_
          refine x_getR dX1_wireFromTop_25 lk_RX1_9 rfl rfl ?_
          refine x_iload dX1_wireFromTop_28 rfl ?_
          refine x_iald dX1_wireFromTop_30 rfl ?_
          refine x_iload_n dX1_wireFromTop_31 rfl rfl ?_
          refine x_icmp_lt 37 dX1_wireFromTop_32 (by decide) (fun _ => ?_) (fun _ => ?_)
          · exact x_sub (x_le_s rfl (x_le_s rfl (x_le_s rfl (x_le_s rfl (x_le_s rfl (x_le_s rfl x_le_e)))))) (hj5 () _)
          · refine x_iconst (v := 1) dX1_wireFromTop_35 rfl ?_
            exact x_zret dX1_wireFromTop_36 rfl

theorem c_X1_wireFromTop (a2 : Int32) (a3 : Int32) (a4 : Int32) (σ : xSt) : CON κi yX1_wireFromTop m_X1_wireFromTop true 1 shC [.ref 28, .ref 5, .int a2, .int a3, .int a4] σ (f_X1_wireFromTop a2 a3 a4 σ) := by
  refine x_con (L := [some (.ref 28), some (.ref 5), some (.int a2), some (.int a3), some (.int a4), none]) (by decide) rfl rfl rfl ?_
  unfold f_X1_wireFromTop
  refine x_iconst (v := 0) dX1_wireFromTop_0 rfl ?_
  refine x_istore dX1_wireFromTop_1 rfl rfl ?_
  refine x_sub (x_le_s rfl (x_le_s rfl (x_le_s rfl (x_le_s rfl (x_le_s rfl (x_le_s rfl x_le_e)))))) (t_X1_wireFromTop_3 _ _ _ _ (fun  s6 => ?_) FU _ _)
  refine x_iconst (v := 0) dX1_wireFromTop_43 rfl ?_
  exact x_zret dX1_wireFromTop_44 rfl

theorem t_X1_wireFromBottom_3 (w2 : Int32) (w3 : Int32) (w4 : Int32) (k : xSt → Option (Int32 × xSt)) (hk : ∀ (σ : xSt), XP κi true m_X1_wireFromBottom 1 shC 66 [none, none, none, none, none, none, none] [] σ (k  σ)) : ∀ (n : Nat) (w5 : Int32) (σ : xSt), XP κi true m_X1_wireFromBottom 1 shC 3 [some (.ref 28), some (.ref 5), some (.int w2), some (.int w3), some (.int w4), some (.int w5), none] [] σ (f_X1_wireFromBottom_3 w2 w3 w4 k n w5 σ) := by
  intro n
  induction n with
  | zero => intro w5 σ; exact x_none
  | succ n ih =>
    intro w5 σ
    rw [f_X1_wireFromBottom_3]
    refine x_iload dX1_wireFromBottom_3 rfl ?_
    refine x_aload_n dX1_wireFromBottom_5 rfl rfl ?_
    refine x_getI dX1_wireFromBottom_6 lk_RX1_24 rfl rfl ?_
    refine x_icmp_ge 66 dX1_wireFromBottom_9 (by decide) (fun _ => ?_) (fun _ => ?_)
    · exact x_sub (x_le_n (x_le_n (x_le_n (x_le_n (x_le_n (x_le_n (x_le_n x_le_e))))))) (hk  _)
    · refine x_aload_n dX1_wireFromBottom_12 rfl rfl ?_
      refine x_getR dX1_wireFromBottom_13 lk_RX1_9 rfl rfl ?_
      refine x_iload dX1_wireFromBottom_16 rfl ?_
      refine x_iald dX1_wireFromBottom_18 rfl ?_
      refine x_iconst (v := -1) dX1_wireFromBottom_19 rfl ?_
      refine x_jn 39 (fun (v4 : Int32) => [some (.ref 28), some (.ref 5), some (.int w2), some (.int w3), some (.int w4), some (.int w5), none]) (fun (v4 : Int32) => [.int v4]) (fun v4 s5 => ?_) (fun j6 hj6 => ?_)
      · refine x_istore dX1_wireFromBottom_39 rfl rfl ?_
        refine x_iload dX1_wireFromBottom_41 rfl ?_
        refine x_jn 60 (fun (v9 : Unit) => [some (.ref 28), some (.ref 5), some (.int w2), some (.int w3), some (.int w4), some (.int w5), none]) (fun (v9 : Unit) => []) (fun v9 s10 => ?_) (fun j11 hj11 => ?_)
        · refine x_iinc dX1_wireFromBottom_60 rfl rfl rfl rfl ?_
          refine x_goto 3 dX1_wireFromBottom_63 (by decide) ?_
          exact x_sub (x_le_s rfl (x_le_s rfl (x_le_s rfl (x_le_s rfl (x_le_s rfl (x_le_s rfl (x_le_n x_le_e))))))) (ih _ _)
        · refine x_if_eq 60 dX1_wireFromBottom_43 (by decide) (fun _ => ?_) (fun _ => ?_)
          · exact x_sub (x_le_s rfl (x_le_s rfl (x_le_s rfl (x_le_s rfl (x_le_s rfl (x_le_s rfl (x_le_n x_le_e))))))) (hj11 () _)
          · refine x_aload_n dX1_wireFromBottom_46 rfl rfl ?_
            refine x_iload dX1_wireFromBottom_47 rfl ?_
            refine x_iload_n dX1_wireFromBottom_49 rfl rfl ?_
            refine x_iload dX1_wireFromBottom_50 rfl ?_
            refine x_callV3i dX1_wireFromBottom_52 lc_RX1_59 (c_X3_isJoined_5 _ _ _ _) rfl rfl rfl rfl rfl (fun r12 s13 => ?_)
            refine x_if_eq 60 dX1_wireFromBottom_55 (by decide) (fun _ => ?_) (fun _ => ?_)
            · exact x_sub (x_le_s rfl (x_le_s rfl (x_le_s rfl (x_le_s rfl (x_le_s rfl (x_le_s rfl (x_le_n x_le_e))))))) (hj11 () _)
            · refine x_iconst (v := 1) dX1_wireFromBottom_58 rfl ?_
              exact x_zret dX1_wireFromBottom_59 rfl
      · refine x_jn 38 (fun (v14 : Unit) => [some (.ref 28), some (.ref 5), some (.int w2), some (.int w3), some (.int w4), some (.int w5), none]) (fun (v14 : Unit) => []) (fun v14 s15 => ?_) (fun j16 hj16 => ?_)
        · refine x_iconst (v := 0) dX1_wireFromBottom_38 rfl ?_
          exact x_sub (x_le_s rfl (x_le_s rfl (x_le_s rfl (x_le_s rfl (x_le_s rfl (x_le_s rfl (x_le_n x_le_e))))))) (hj6 0 _)
        · refine x_icmp_eq 38 dX1_wireFromBottom_20 (by decide) (fun _ => ?_) (fun _ => ?_)
          · exact x_sub (x_le_s rfl (x_le_s rfl (x_le_s rfl (x_le_s rfl (x_le_s rfl (x_le_s rfl (x_le_n x_le_e))))))) (hj16 () _)
          · refine x_aload_n dX1_wireFromBottom_23 rfl rfl ?_
            refine x_getR dX1_wireFromBottom_24 lk_RX1_9 rfl rfl ?_
            refine x_iload dX1_wireFromBottom_27 rfl ?_
            refine x_iald dX1_wireFromBottom_29 rfl ?_
            refine x_iload_n dX1_wireFromBottom_30 rfl rfl ?_
            refine x_icmp_gt 38 dX1_wireFromBottom_31 (by decide) (fun _ => ?_) (fun _ => ?_)
            · exact x_sub (x_le_s rfl (x_le_s rfl (x_le_s rfl (x_le_s rfl (x_le_s rfl (x_le_s rfl (x_le_n x_le_e))))))) (hj16 () _)
            · refine x_iconst (v := 1) dX1_wireFromBottom_34 rfl ?_
              refine x_goto 39 dX1_wireFromBottom_35 (by decide) ?_
              exact x_sub (x_le_s rfl (x_le_s rfl (x_le_s rfl (x_le_s rfl (x_le_s rfl (x_le_s rfl (x_le_n x_le_e))))))) (hj6 1 _)

theorem c_X1_wireFromBottom (a2 : Int32) (a3 : Int32) (a4 : Int32) (σ : xSt) : CON κi yX1_wireFromBottom m_X1_wireFromBottom true 1 shC [.ref 28, .ref 5, .int a2, .int a3, .int a4] σ (f_X1_wireFromBottom a2 a3 a4 σ) := by
  refine x_con (L := [some (.ref 28), some (.ref 5), some (.int a2), some (.int a3), some (.int a4), none, none]) (by decide) rfl rfl rfl ?_
  unfold f_X1_wireFromBottom
  refine x_iconst (v := 0) dX1_wireFromBottom_0 rfl ?_
  refine x_istore dX1_wireFromBottom_1 rfl rfl ?_
  refine x_sub (x_le_s rfl (x_le_s rfl (x_le_s rfl (x_le_s rfl (x_le_s rfl (x_le_s rfl (x_le_n x_le_e))))))) (t_X1_wireFromBottom_3 _ _ _ _ (fun  s17 => ?_) FU _ _)
  refine x_iconst (v := 0) dX1_wireFromBottom_66 rfl ?_
  exact x_zret dX1_wireFromBottom_67 rfl

theorem c_X1_verticalNets (a3 : Int32) (a4 : Int32) (σ : xSt) : CON κi yX1_verticalNets m_X1_verticalNets true 2 shC [.ref 28, .ref 3, .ref 5, .int a3, .int a4] σ (f_X1_verticalNets a3 a4 σ) := by
  refine x_con (L := [some (.ref 28), some (.ref 3), some (.ref 5), some (.int a3), some (.int a4), none, none, none]) (by decide) rfl rfl rfl ?_
  unfold f_X1_verticalNets
  refine x_aload_n dX1_verticalNets_0 rfl rfl ?_
  refine x_iload dX1_verticalNets_1 rfl ?_
  refine x_iconst (v := 0) dX1_verticalNets_3 rfl ?_
  refine x_callV2i dX1_verticalNets_4 lc_RX1_47 (c_X0_netOf _ _ _) rfl rfl rfl rfl rfl (fun r1 s2 => ?_)
  refine x_istore dX1_verticalNets_7 rfl rfl ?_
  refine x_aload_n dX1_verticalNets_9 rfl rfl ?_
  refine x_iload dX1_verticalNets_10 rfl ?_
  refine x_iconst (v := 1) dX1_verticalNets_12 rfl ?_
  refine x_callV2i dX1_verticalNets_13 lc_RX1_47 (c_X0_netOf _ _ _) rfl rfl rfl rfl rfl (fun r3 s4 => ?_)
  refine x_istore dX1_verticalNets_16 rfl rfl ?_
  refine x_iconst (v := 0) dX1_verticalNets_18 rfl ?_
  refine x_istore dX1_verticalNets_19 rfl rfl ?_
  refine x_iload dX1_verticalNets_21 rfl ?_
  refine x_iconst (v := -1) dX1_verticalNets_23 rfl ?_
  refine x_jn 56 (fun (v13 : Int32) => [some (.ref 28), none, some (.ref 5), some (.int a3), some (.int a4), none, some (.int r3), some (.int v13)]) (fun (v13 : Int32) => []) (fun v13 s14 => ?_) (fun j15 hj15 => ?_)
  · refine x_iload dX1_verticalNets_56 rfl ?_
    refine x_iconst (v := -1) dX1_verticalNets_58 rfl ?_
    refine x_jn 84 (fun (v19 : Int32) => [none, none, none, none, none, none, none, some (.int v19)]) (fun (v19 : Int32) => []) (fun v19 s20 => ?_) (fun j21 hj21 => ?_)
    · refine x_iload dX1_verticalNets_84 rfl ?_
      exact x_iret dX1_verticalNets_86 rfl
    · refine x_icmp_eq 84 dX1_verticalNets_59 (by decide) (fun _ => ?_) (fun _ => ?_)
      · exact x_sub (x_le_n (x_le_n (x_le_n (x_le_n (x_le_n (x_le_n (x_le_n (x_le_s rfl x_le_e)))))))) (hj21 v13 _)
      · refine x_aload_n dX1_verticalNets_62 rfl rfl ?_
        refine x_aload_n dX1_verticalNets_63 rfl rfl ?_
        refine x_iload dX1_verticalNets_64 rfl ?_
        refine x_iload_n dX1_verticalNets_66 rfl rfl ?_
        refine x_iload dX1_verticalNets_67 rfl ?_
        refine x_callV4i dX1_verticalNets_69 lc_RX1_56 (c_X1_wireFromBottom _ _ _ _) rfl rfl rfl rfl rfl (fun r22 s23 => ?_)
        refine x_if_eq 84 dX1_verticalNets_72 (by decide) (fun _ => ?_) (fun _ => ?_)
        · exact x_sub (x_le_n (x_le_n (x_le_n (x_le_n (x_le_n (x_le_n (x_le_n (x_le_s rfl x_le_e)))))))) (hj21 v13 _)
        · refine x_iload dX1_verticalNets_75 rfl ?_
          refine x_iconst (v := 1) dX1_verticalNets_77 rfl ?_
          refine x_iload dX1_verticalNets_78 rfl ?_
          refine x_ishl dX1_verticalNets_80 ?_
          refine x_ior dX1_verticalNets_81 ?_
          refine x_istoreB dX1_verticalNets_82 rfl rfl (fun x24 => ?_)
          exact x_sub (x_le_n (x_le_n (x_le_n (x_le_n (x_le_n (x_le_n (x_le_n (x_le_s rfl x_le_e)))))))) (hj21 x24 _)
  · refine x_icmp_eq 56 dX1_verticalNets_24 (by decide) (fun _ => ?_) (fun _ => ?_)
    · exact x_sub (x_le_s rfl (x_le_n (x_le_s rfl (x_le_s rfl (x_le_s rfl (x_le_n (x_le_s rfl (x_le_s rfl x_le_e)))))))) (hj15 0 _)
    · refine x_iload dX1_verticalNets_27 rfl ?_
      refine x_iload dX1_verticalNets_29 rfl ?_
      refine x_jn 47 (fun (v27 : Unit) => [some (.ref 28), none, some (.ref 5), some (.int a3), some (.int a4), some (.int r1), some (.int r3), some (.int 0)]) (fun (v27 : Unit) => []) (fun v27 s28 => ?_) (fun j29 hj29 => ?_)
      · refine x_iload dX1_verticalNets_47 rfl ?_
        refine x_iconst (v := 1) dX1_verticalNets_49 rfl ?_
        refine x_iload dX1_verticalNets_50 rfl ?_
        refine x_ishl dX1_verticalNets_52 ?_
        refine x_ior dX1_verticalNets_53 ?_
        refine x_istoreB dX1_verticalNets_54 rfl rfl (fun x30 => ?_)
        exact x_sub (x_le_s rfl (x_le_n (x_le_s rfl (x_le_s rfl (x_le_s rfl (x_le_n (x_le_s rfl (x_le_s rfl x_le_e)))))))) (hj15 x30 _)
      · refine x_icmp_eq 47 dX1_verticalNets_31 (by decide) (fun _ => ?_) (fun _ => ?_)
        · exact x_sub (x_le_s rfl (x_le_n (x_le_s rfl (x_le_s rfl (x_le_s rfl (x_le_s rfl (x_le_s rfl (x_le_s rfl x_le_e)))))))) (hj29 () _)
        · refine x_aload_n dX1_verticalNets_34 rfl rfl ?_
          refine x_aload_n dX1_verticalNets_35 rfl rfl ?_
          refine x_iload dX1_verticalNets_36 rfl ?_
          refine x_iload_n dX1_verticalNets_38 rfl rfl ?_
          refine x_iload dX1_verticalNets_39 rfl ?_
          refine x_callV4i dX1_verticalNets_41 lc_RX1_52 (c_X1_wireFromTop _ _ _ _) rfl rfl rfl rfl rfl (fun r31 s32 => ?_)
          refine x_if_eq 56 dX1_verticalNets_44 (by decide) (fun _ => ?_) (fun _ => ?_)
          · exact x_sub (x_le_s rfl (x_le_n (x_le_s rfl (x_le_s rfl (x_le_s rfl (x_le_n (x_le_s rfl (x_le_s rfl x_le_e)))))))) (hj15 0 _)
          · exact x_sub (x_le_s rfl (x_le_n (x_le_s rfl (x_le_s rfl (x_le_s rfl (x_le_s rfl (x_le_s rfl (x_le_s rfl x_le_e)))))))) (hj29 () _)

theorem t_X1_conflicts_21 (w5 : Int32) (w4 : Int32) (k : Int32 → xSt → Option (Int32 × xSt)) (hk : ∀ (w3 : Int32) (σ : xSt), XP κi true m_X1_conflicts 3 shC 75 [some (.ref 28), some (.ref 3), some (.ref 5), some (.int w3), some (.int w4), some (.int w5), none] [] σ (k w3 σ)) : ∀ (n : Nat) (w3 : Int32) (w6 : Int32) (σ : xSt), XP κi true m_X1_conflicts 3 shC 21 [some (.ref 28), some (.ref 3), some (.ref 5), some (.int w3), some (.int w4), some (.int w5), some (.int w6)] [] σ (f_X1_conflicts_21 w5 k n w3 w6 σ) := by
  intro n
  induction n with
  | zero => intro w3 w6 σ; exact x_none
  | succ n ih =>
    intro w3 w6 σ
    rw [f_X1_conflicts_21]
    refine x_iload dX1_conflicts_21 rfl ?_
    refine x_aload_n dX1_conflicts_23 rfl rfl ?_
    refine x_getI dX1_conflicts_24 lk_RX1_67 rfl rfl ?_
    refine x_icmp_ge 75 dX1_conflicts_27 (by decide) (fun _ => ?_) (fun _ => ?_)
    · exact x_sub (x_le_s rfl (x_le_s rfl (x_le_s rfl (x_le_s rfl (x_le_s rfl (x_le_s rfl (x_le_n x_le_e))))))) (hk _ _)
    · refine x_aload_n dX1_conflicts_30 rfl rfl ?_
      refine x_aload_n dX1_conflicts_31 rfl rfl ?_
      refine x_iload dX1_conflicts_32 rfl ?_
      refine x_iload dX1_conflicts_34 rfl ?_
      refine x_callV3i dX1_conflicts_36 lc_RX1_70 (c_X1_horizontalNets _ _ _) rfl rfl rfl rfl rfl (fun r3 s4 => ?_)
      refine x_callS1i dX1_conflicts_39 lc_RX1_74 (c_J6_bitCount_0f7a4 _ _) rfl rfl (fun r5 s6 => ?_)
      refine x_iconst (v := 1) dX1_conflicts_42 rfl ?_
      refine x_jn 49 (fun (v7 : Int32) => [some (.ref 28), some (.ref 3), some (.ref 5), some (.int v7), some (.int w4), some (.int w5), some (.int w6)]) (fun (v7 : Int32) => []) (fun v7 s8 => ?_) (fun j9 hj9 => ?_)
      · refine x_aload_n dX1_conflicts_49 rfl rfl ?_
        refine x_aload_n dX1_conflicts_50 rfl rfl ?_
        refine x_aload_n dX1_conflicts_51 rfl rfl ?_
        refine x_iload dX1_conflicts_52 rfl ?_
        refine x_iload dX1_conflicts_54 rfl ?_
        refine x_callV4i dX1_conflicts_56 lc_RX1_80 (c_X1_verticalNets _ _ _) rfl rfl rfl rfl rfl (fun r10 s11 => ?_)
        refine x_callS1i dX1_conflicts_59 lc_RX1_74 (c_J6_bitCount_0f7a4 _ _) rfl rfl (fun r12 s13 => ?_)
        refine x_iconst (v := 1) dX1_conflicts_62 rfl ?_
        refine x_jn 69 (fun (v14 : Int32) => [some (.ref 28), some (.ref 3), some (.ref 5), some (.int v14), some (.int w4), some (.int w5), some (.int w6)]) (fun (v14 : Int32) => []) (fun v14 s15 => ?_) (fun j16 hj16 => ?_)
        · refine x_iinc dX1_conflicts_69 rfl rfl rfl rfl ?_
          refine x_goto 21 dX1_conflicts_72 (by decide) ?_
          exact x_sub (x_le_s rfl (x_le_s rfl (x_le_s rfl (x_le_s rfl (x_le_s rfl (x_le_s rfl (x_le_s rfl x_le_e))))))) (ih _ _ _)
        · refine x_icmp_le 69 dX1_conflicts_63 (by decide) (fun _ => ?_) (fun _ => ?_)
          · exact x_sub (x_le_s rfl (x_le_s rfl (x_le_s rfl (x_le_s rfl (x_le_s rfl (x_le_s rfl (x_le_s rfl x_le_e))))))) (hj16 v7 _)
          · refine x_iinc dX1_conflicts_66 rfl rfl rfl rfl ?_
            exact x_sub (x_le_s rfl (x_le_s rfl (x_le_s rfl (x_le_s rfl (x_le_s rfl (x_le_s rfl (x_le_s rfl x_le_e))))))) (hj16 (v7 + 1) _)
      · refine x_icmp_le 49 dX1_conflicts_43 (by decide) (fun _ => ?_) (fun _ => ?_)
        · exact x_sub (x_le_s rfl (x_le_s rfl (x_le_s rfl (x_le_s rfl (x_le_s rfl (x_le_s rfl (x_le_s rfl x_le_e))))))) (hj9 w3 _)
        · refine x_iinc dX1_conflicts_46 rfl rfl rfl rfl ?_
          exact x_sub (x_le_s rfl (x_le_s rfl (x_le_s rfl (x_le_s rfl (x_le_s rfl (x_le_s rfl (x_le_s rfl x_le_e))))))) (hj9 (w3 + 1) _)

theorem t_X1_conflicts_11 (w4 : Int32) (k : Int32 → xSt → Option (Int32 × xSt)) (hk : ∀ (w3 : Int32) (σ : xSt), XP κi true m_X1_conflicts 3 shC 81 [none, none, none, some (.int w3), none, none, none] [] σ (k w3 σ)) : ∀ (n : Nat) (w3 : Int32) (w5 : Int32) (σ : xSt), XP κi true m_X1_conflicts 3 shC 11 [some (.ref 28), some (.ref 3), some (.ref 5), some (.int w3), some (.int w4), some (.int w5), none] [] σ (f_X1_conflicts_11 w4 k n w3 w5 σ) := by
  intro n
  induction n with
  | zero => intro w3 w5 σ; exact x_none
  | succ n ih =>
    intro w3 w5 σ
    rw [f_X1_conflicts_11]
    refine x_iload dX1_conflicts_11 rfl ?_
    refine x_iload dX1_conflicts_13 rfl ?_
    refine x_icmp_ge 81 dX1_conflicts_15 (by decide) (fun _ => ?_) (fun _ => ?_)
    · exact x_sub (x_le_n (x_le_n (x_le_n (x_le_s rfl (x_le_n (x_le_n (x_le_n x_le_e))))))) (hk _ _)
    · refine x_iconst (v := 0) dX1_conflicts_18 rfl ?_
      refine x_istore dX1_conflicts_19 rfl rfl ?_
      refine x_sub (x_le_s rfl (x_le_s rfl (x_le_s rfl (x_le_s rfl (x_le_s rfl (x_le_s rfl (x_le_s rfl x_le_e))))))) (t_X1_conflicts_21 _ _ _ (fun e17 s18 => ?_) FU _ _ _)
      refine x_iinc dX1_conflicts_75 rfl rfl rfl rfl ?_
      refine x_goto 11 dX1_conflicts_78 (by decide) ?_
      exact x_sub (x_le_s rfl (x_le_s rfl (x_le_s rfl (x_le_s rfl (x_le_s rfl (x_le_s rfl (x_le_n x_le_e))))))) (ih _ _ _)

theorem c_X1_conflicts (σ : xSt) : CON κi yX1_conflicts m_X1_conflicts true 3 shC [.ref 28, .ref 3, .ref 5] σ (f_X1_conflicts σ) := by
  refine x_con (L := [some (.ref 28), some (.ref 3), some (.ref 5), none, none, none, none]) (by decide) rfl rfl rfl ?_
  unfold f_X1_conflicts
  refine x_iconst (v := 0) dX1_conflicts_0 rfl ?_
  refine x_istore_n dX1_conflicts_1 rfl rfl rfl ?_
  refine x_aload_n dX1_conflicts_2 rfl rfl ?_
  refine x_callV0i dX1_conflicts_3 lc_RX1_63 (c_X1_depth _) rfl rfl rfl rfl rfl (fun r1 s2 => ?_)
  refine x_istore dX1_conflicts_6 rfl rfl ?_
  refine x_iconst (v := 0) dX1_conflicts_8 rfl ?_
  refine x_istore dX1_conflicts_9 rfl rfl ?_
  refine x_sub (x_le_s rfl (x_le_s rfl (x_le_s rfl (x_le_s rfl (x_le_s rfl (x_le_s rfl (x_le_n x_le_e))))))) (t_X1_conflicts_11 _ _ (fun e19 s20 => ?_) FU _ _ _)
  refine x_iload_n dX1_conflicts_81 rfl rfl ?_
  exact x_iret dX1_conflicts_82 rfl

theorem t_X1_isFree_3 (w2 : Int32) (w3 : Int32) (k : xSt → Option (Int32 × xSt)) (hk : ∀ (σ : xSt), XP κi true m_X1_isFree 1 shC 97 [none, none, none, none, none, none, none] [] σ (k  σ)) : ∀ (n : Nat) (w4 : Int32) (σ : xSt), XP κi true m_X1_isFree 1 shC 3 [some (.ref 28), some (.ref 5), some (.int w2), some (.int w3), some (.int w4), none, none] [] σ (f_X1_isFree_3 w2 w3 k n w4 σ) := by
  intro n
  induction n with
  | zero => intro w4 σ; exact x_none
  | succ n ih =>
    intro w4 σ
    rw [f_X1_isFree_3]
    refine x_iload dX1_isFree_3 rfl ?_
    refine x_aload_n dX1_isFree_5 rfl rfl ?_
    refine x_getI dX1_isFree_6 lk_RX1_24 rfl rfl ?_
    refine x_icmp_ge 97 dX1_isFree_9 (by decide) (fun _ => ?_) (fun _ => ?_)
    · exact x_sub (x_le_n (x_le_n (x_le_n (x_le_n (x_le_n (x_le_n (x_le_n x_le_e))))))) (hk  _)
    · refine x_aload_n dX1_isFree_12 rfl rfl ?_
      refine x_getR dX1_isFree_13 lk_RX1_9 rfl rfl ?_
      refine x_iload dX1_isFree_16 rfl ?_
      refine x_iald dX1_isFree_18 rfl ?_
      refine x_iconst (v := -1) dX1_isFree_19 rfl ?_
      refine x_jn 39 (fun (v4 : Int32) => [some (.ref 28), some (.ref 5), some (.int w2), some (.int w3), some (.int w4), none, none]) (fun (v4 : Int32) => [.int v4]) (fun v4 s5 => ?_) (fun j6 hj6 => ?_)
      · refine x_istore dX1_isFree_39 rfl rfl ?_
        refine x_aload_n dX1_isFree_41 rfl rfl ?_
        refine x_getR dX1_isFree_42 lk_RX1_9 rfl rfl ?_
        refine x_iload dX1_isFree_45 rfl ?_
        refine x_iald dX1_isFree_47 rfl ?_
        refine x_iload_n dX1_isFree_48 rfl rfl ?_
        refine x_jn 67 (fun (v14 : Int32) => [some (.ref 28), some (.ref 5), some (.int w2), some (.int w3), some (.int w4), some (.int v4), none]) (fun (v14 : Int32) => [.int v14]) (fun v14 s15 => ?_) (fun j16 hj16 => ?_)
        · refine x_istore dX1_isFree_67 rfl rfl ?_
          refine x_iload dX1_isFree_69 rfl ?_
          refine x_jn 89 (fun (v22 : Unit) => [none, none, none, none, none, none, none]) (fun (v22 : Unit) => []) (fun v22 s23 => ?_) (fun j24 hj24 => ?_)
          · refine x_iconst (v := 0) dX1_isFree_89 rfl ?_
            exact x_zret dX1_isFree_90 rfl
          · refine x_if_ne 89 dX1_isFree_71 (by decide) (fun _ => ?_) (fun _ => ?_)
            · exact x_sub (x_le_n (x_le_n (x_le_n (x_le_n (x_le_n (x_le_n (x_le_n x_le_e))))))) (hj24 () _)
            · refine x_aload_n dX1_isFree_74 rfl rfl ?_
              refine x_iload dX1_isFree_75 rfl ?_
              refine x_iload_n dX1_isFree_77 rfl rfl ?_
              refine x_callV2i dX1_isFree_78 lc_RX1_38 (c_X3_isAbove_5 _ _ _) rfl rfl rfl rfl rfl (fun r25 s26 => ?_)
              refine x_jn 91 (fun (v27 : Unit) => [some (.ref 28), some (.ref 5), some (.int w2), some (.int w3), some (.int w4), none, none]) (fun (v27 : Unit) => []) (fun v27 s28 => ?_) (fun j29 hj29 => ?_)
              · refine x_iinc dX1_isFree_91 rfl rfl rfl rfl ?_
                refine x_goto 3 dX1_isFree_94 (by decide) ?_
                exact x_sub (x_le_s rfl (x_le_s rfl (x_le_s rfl (x_le_s rfl (x_le_s rfl (x_le_n (x_le_n x_le_e))))))) (ih _ _)
              · refine x_if_eq 91 dX1_isFree_81 (by decide) (fun _ => ?_) (fun _ => ?_)
                · exact x_sub (x_le_s rfl (x_le_s rfl (x_le_s rfl (x_le_s rfl (x_le_s rfl (x_le_n (x_le_n x_le_e))))))) (hj29 () _)
                · refine x_iload dX1_isFree_84 rfl ?_
                  refine x_if_ne 91 dX1_isFree_86 (by decide) (fun _ => ?_) (fun _ => ?_)
                  · exact x_sub (x_le_s rfl (x_le_s rfl (x_le_s rfl (x_le_s rfl (x_le_s rfl (x_le_n (x_le_n x_le_e))))))) (hj29 () _)
                  · exact x_sub (x_le_n (x_le_n (x_le_n (x_le_n (x_le_n (x_le_n (x_le_n x_le_e))))))) (hj24 () _)
        · refine x_jn 66 (fun (v32 : Unit) => [some (.ref 28), some (.ref 5), some (.int w2), some (.int w3), some (.int w4), some (.int v4), none]) (fun (v32 : Unit) => []) (fun v32 s33 => ?_) (fun j34 hj34 => ?_)
          · refine x_iconst (v := 0) dX1_isFree_66 rfl ?_
            exact x_sub (x_le_s rfl (x_le_s rfl (x_le_s rfl (x_le_s rfl (x_le_s rfl (x_le_s rfl (x_le_n x_le_e))))))) (hj16 0 _)
          · refine x_icmp_ne 66 dX1_isFree_49 (by decide) (fun _ => ?_) (fun _ => ?_)
            · exact x_sub (x_le_s rfl (x_le_s rfl (x_le_s rfl (x_le_s rfl (x_le_s rfl (x_le_s rfl (x_le_n x_le_e))))))) (hj34 () _)
            · refine x_aload_n dX1_isFree_52 rfl rfl ?_
              refine x_iload dX1_isFree_53 rfl ?_
              refine x_iload_n dX1_isFree_55 rfl rfl ?_
              refine x_callV2i dX1_isFree_56 lc_RX1_34 (c_X3_overlap_5 _ _ _) rfl rfl rfl rfl rfl (fun r35 s36 => ?_)
              refine x_if_eq 66 dX1_isFree_59 (by decide) (fun _ => ?_) (fun _ => ?_)
              · exact x_sub (x_le_s rfl (x_le_s rfl (x_le_s rfl (x_le_s rfl (x_le_s rfl (x_le_s rfl (x_le_n x_le_e))))))) (hj34 () _)
              · refine x_iconst (v := 1) dX1_isFree_62 rfl ?_
                refine x_goto 67 dX1_isFree_63 (by decide) ?_
                exact x_sub (x_le_s rfl (x_le_s rfl (x_le_s rfl (x_le_s rfl (x_le_s rfl (x_le_s rfl (x_le_n x_le_e))))))) (hj16 1 _)
      · refine x_jn 38 (fun (v37 : Unit) => [some (.ref 28), some (.ref 5), some (.int w2), some (.int w3), some (.int w4), none, none]) (fun (v37 : Unit) => []) (fun v37 s38 => ?_) (fun j39 hj39 => ?_)
        · refine x_iconst (v := 0) dX1_isFree_38 rfl ?_
          exact x_sub (x_le_s rfl (x_le_s rfl (x_le_s rfl (x_le_s rfl (x_le_s rfl (x_le_n (x_le_n x_le_e))))))) (hj6 0 _)
        · refine x_icmp_eq 38 dX1_isFree_20 (by decide) (fun _ => ?_) (fun _ => ?_)
          · exact x_sub (x_le_s rfl (x_le_s rfl (x_le_s rfl (x_le_s rfl (x_le_s rfl (x_le_n (x_le_n x_le_e))))))) (hj39 () _)
          · refine x_aload_n dX1_isFree_23 rfl rfl ?_
            refine x_getR dX1_isFree_24 lk_RX1_9 rfl rfl ?_
            refine x_iload dX1_isFree_27 rfl ?_
            refine x_iald dX1_isFree_29 rfl ?_
            refine x_iload_n dX1_isFree_30 rfl rfl ?_
            refine x_icmp_ge 38 dX1_isFree_31 (by decide) (fun _ => ?_) (fun _ => ?_)
            · exact x_sub (x_le_s rfl (x_le_s rfl (x_le_s rfl (x_le_s rfl (x_le_s rfl (x_le_n (x_le_n x_le_e))))))) (hj39 () _)
            · refine x_iconst (v := 1) dX1_isFree_34 rfl ?_
              refine x_goto 39 dX1_isFree_35 (by decide) ?_
              exact x_sub (x_le_s rfl (x_le_s rfl (x_le_s rfl (x_le_s rfl (x_le_s rfl (x_le_n (x_le_n x_le_e))))))) (hj6 1 _)

theorem c_X1_isFree (a2 : Int32) (a3 : Int32) (σ : xSt) : CON κi yX1_isFree m_X1_isFree true 1 shC [.ref 28, .ref 5, .int a2, .int a3] σ (f_X1_isFree a2 a3 σ) := by
  refine x_con (L := [some (.ref 28), some (.ref 5), some (.int a2), some (.int a3), none, none, none]) (by decide) rfl rfl rfl ?_
  unfold f_X1_isFree
  refine x_iconst (v := 0) dX1_isFree_0 rfl ?_
  refine x_istore dX1_isFree_1 rfl rfl ?_
  refine x_sub (x_le_s rfl (x_le_s rfl (x_le_s rfl (x_le_s rfl (x_le_s rfl (x_le_n (x_le_n x_le_e))))))) (t_X1_isFree_3 _ _ _ (fun  s40 => ?_) FU _ _)
  refine x_iconst (v := 1) dX1_isFree_97 rfl ?_
  exact x_zret dX1_isFree_98 rfl

theorem t_X1_leftmost_5 (w2 : Int32) (k : Int32 → xSt → Option (Int32 × xSt)) (hk : ∀ (w3 : Int32) (σ : xSt), XP κi true m_X1_leftmost 2 shC 78 [none, none, none, some (.int w3), none, none] [] σ (k w3 σ)) : ∀ (n : Nat) (w3 : Int32) (w4 : Int32) (σ : xSt), XP κi true m_X1_leftmost 2 shC 5 [some (.ref 28), some (.ref 5), some (.int w2), some (.int w3), some (.int w4), none] [] σ (f_X1_leftmost_5 w2 k n w3 w4 σ) := by
  intro n
  induction n with
  | zero => intro w3 w4 σ; exact x_none
  | succ n ih =>
    intro w3 w4 σ
    rw [f_X1_leftmost_5]
    refine x_iload dX1_leftmost_5 rfl ?_
    refine x_aload_n dX1_leftmost_7 rfl rfl ?_
    refine x_getI dX1_leftmost_8 lk_RX1_24 rfl rfl ?_
    refine x_icmp_ge 78 dX1_leftmost_11 (by decide) (fun _ => ?_) (fun _ => ?_)
    · exact x_sub (x_le_n (x_le_n (x_le_n (x_le_s rfl (x_le_n (x_le_n x_le_e)))))) (hk _ _)
    · refine x_iload_n dX1_leftmost_14 rfl rfl ?_
      refine x_iconst (v := -1) dX1_leftmost_15 rfl ?_
      refine x_jn 40 (fun (v4 : Int32) => [some (.ref 28), some (.ref 5), some (.int w2), some (.int w3), some (.int w4), none]) (fun (v4 : Int32) => [.int v4]) (fun v4 s5 => ?_) (fun j6 hj6 => ?_)
      · refine x_istore dX1_leftmost_40 rfl rfl ?_
        refine x_iload dX1_leftmost_42 rfl ?_
        refine x_jn 72 (fun (v9 : Int32) => [some (.ref 28), some (.ref 5), some (.int w2), some (.int v9), some (.int w4), none]) (fun (v9 : Int32) => []) (fun v9 s10 => ?_) (fun j11 hj11 => ?_)
        · refine x_iinc dX1_leftmost_72 rfl rfl rfl rfl ?_
          refine x_goto 5 dX1_leftmost_75 (by decide) ?_
          exact x_sub (x_le_s rfl (x_le_s rfl (x_le_s rfl (x_le_s rfl (x_le_s rfl (x_le_n x_le_e)))))) (ih _ _ _)
        · refine x_if_eq 72 dX1_leftmost_44 (by decide) (fun _ => ?_) (fun _ => ?_)
          · exact x_sub (x_le_s rfl (x_le_s rfl (x_le_s rfl (x_le_s rfl (x_le_s rfl (x_le_n x_le_e)))))) (hj11 w3 _)
          · refine x_aload_n dX1_leftmost_47 rfl rfl ?_
            refine x_getR dX1_leftmost_48 lk_RX1_9 rfl rfl ?_
            refine x_iload dX1_leftmost_51 rfl ?_
            refine x_iald dX1_leftmost_53 rfl ?_
            refine x_iconst (v := -1) dX1_leftmost_54 rfl ?_
            refine x_icmp_ne 72 dX1_leftmost_55 (by decide) (fun _ => ?_) (fun _ => ?_)
            · exact x_sub (x_le_s rfl (x_le_s rfl (x_le_s rfl (x_le_s rfl (x_le_s rfl (x_le_n x_le_e)))))) (hj11 w3 _)
            · refine x_aload_n dX1_leftmost_58 rfl rfl ?_
              refine x_aload_n dX1_leftmost_59 rfl rfl ?_
              refine x_iload dX1_leftmost_60 rfl ?_
              refine x_iload_n dX1_leftmost_62 rfl rfl ?_
              refine x_callV3i dX1_leftmost_63 lc_RX1_95 (c_X1_isFree _ _ _) rfl rfl rfl rfl rfl (fun r12 s13 => ?_)
              refine x_if_eq 72 dX1_leftmost_66 (by decide) (fun _ => ?_) (fun _ => ?_)
              · exact x_sub (x_le_s rfl (x_le_s rfl (x_le_s rfl (x_le_s rfl (x_le_s rfl (x_le_n x_le_e)))))) (hj11 w3 _)
              · refine x_iload dX1_leftmost_69 rfl ?_
                refine x_istore_n dX1_leftmost_71 rfl rfl rfl ?_
                exact x_sub (x_le_s rfl (x_le_s rfl (x_le_s rfl (x_le_s rfl (x_le_s rfl (x_le_n x_le_e)))))) (hj11 w4 _)
      · refine x_jn 35 (fun (v14 : Unit) => [some (.ref 28), some (.ref 5), some (.int w2), some (.int w3), some (.int w4), none]) (fun (v14 : Unit) => []) (fun v14 s15 => ?_) (fun j16 hj16 => ?_)
        · refine x_iconst (v := 1) dX1_leftmost_35 rfl ?_
          refine x_goto 40 dX1_leftmost_36 (by decide) ?_
          exact x_sub (x_le_s rfl (x_le_s rfl (x_le_s rfl (x_le_s rfl (x_le_s rfl (x_le_n x_le_e)))))) (hj6 1 _)
        · refine x_icmp_eq 35 dX1_leftmost_16 (by decide) (fun _ => ?_) (fun _ => ?_)
          · exact x_sub (x_le_s rfl (x_le_s rfl (x_le_s rfl (x_le_s rfl (x_le_s rfl (x_le_n x_le_e)))))) (hj16 () _)
          · refine x_aload_n dX1_leftmost_19 rfl rfl ?_
            refine x_getR dX1_leftmost_20 lk_RX1_92 rfl rfl ?_
            refine x_iload dX1_leftmost_23 rfl ?_
            refine x_iald dX1_leftmost_25 rfl ?_
            refine x_aload_n dX1_leftmost_26 rfl rfl ?_
            refine x_getR dX1_leftmost_27 lk_RX1_92 rfl rfl ?_
            refine x_iload_n dX1_leftmost_30 rfl rfl ?_
            refine x_iald dX1_leftmost_31 rfl ?_
            refine x_icmp_ge 39 dX1_leftmost_32 (by decide) (fun _ => ?_) (fun _ => ?_)
            · refine x_iconst (v := 0) dX1_leftmost_39 rfl ?_
              exact x_sub (x_le_s rfl (x_le_s rfl (x_le_s rfl (x_le_s rfl (x_le_s rfl (x_le_n x_le_e)))))) (hj6 0 _)
            · exact x_sub (x_le_s rfl (x_le_s rfl (x_le_s rfl (x_le_s rfl (x_le_s rfl (x_le_n x_le_e)))))) (hj16 () _)

theorem c_X1_leftmost (a2 : Int32) (σ : xSt) : CON κi yX1_leftmost m_X1_leftmost true 2 shC [.ref 28, .ref 5, .int a2] σ (f_X1_leftmost a2 σ) := by
  refine x_con (L := [some (.ref 28), some (.ref 5), some (.int a2), none, none, none]) (by decide) rfl rfl rfl ?_
  unfold f_X1_leftmost
  refine x_iconst (v := -1) dX1_leftmost_0 rfl ?_
  refine x_istore_n dX1_leftmost_1 rfl rfl rfl ?_
  refine x_iconst (v := 0) dX1_leftmost_2 rfl ?_
  refine x_istore dX1_leftmost_3 rfl rfl ?_
  refine x_sub (x_le_s rfl (x_le_s rfl (x_le_s rfl (x_le_s rfl (x_le_s rfl (x_le_n x_le_e)))))) (t_X1_leftmost_5 _ _ (fun e17 s18 => ?_) FU _ _ _)
  refine x_iload_n dX1_leftmost_78 rfl rfl ?_
  exact x_iret dX1_leftmost_79 rfl

theorem t_X1_fillTrack_2 (w2 : Int32) (k : xSt → Option (Unit × xSt)) (hk : ∀ (σ : xSt), XP κv true m_X1_fillTrack 3 shC 39 [none, none, none, none, none] [] σ (k  σ)) : ∀ (n : Nat) (w3 : Int32) (σ : xSt), XP κv true m_X1_fillTrack 3 shC 2 [some (.ref 28), some (.ref 5), some (.int w2), some (.int w3), none] [] σ (f_X1_fillTrack_2 w2 k n w3 σ) := by
  intro n
  induction n with
  | zero => intro w3 σ; exact x_none
  | succ n ih =>
    intro w3 σ
    rw [f_X1_fillTrack_2]
    refine x_iload_n dX1_fillTrack_2 rfl rfl ?_
    refine x_aload_n dX1_fillTrack_3 rfl rfl ?_
    refine x_getI dX1_fillTrack_4 lk_RX1_24 rfl rfl ?_
    refine x_icmp_ge 39 dX1_fillTrack_7 (by decide) (fun _ => ?_) (fun _ => ?_)
    · exact x_sub (x_le_n (x_le_n (x_le_n (x_le_n (x_le_n x_le_e))))) (hk  _)
    · refine x_aload_n dX1_fillTrack_10 rfl rfl ?_
      refine x_aload_n dX1_fillTrack_11 rfl rfl ?_
      refine x_iload_n dX1_fillTrack_12 rfl rfl ?_
      refine x_callV2i dX1_fillTrack_13 lc_RX1_88 (c_X1_leftmost _ _) rfl rfl rfl rfl rfl (fun r1 s2 => ?_)
      refine x_istore dX1_fillTrack_16 rfl rfl ?_
      refine x_iload dX1_fillTrack_18 rfl ?_
      refine x_iconst (v := -1) dX1_fillTrack_20 rfl ?_
      refine x_icmp_ne 25 dX1_fillTrack_21 (by decide) (fun _ => ?_) (fun _ => ?_)
      · refine x_aload_n dX1_fillTrack_25 rfl rfl ?_
        refine x_getR dX1_fillTrack_26 lk_RX1_9 rfl rfl ?_
        refine x_iload dX1_fillTrack_29 rfl ?_
        refine x_iload_n dX1_fillTrack_31 rfl rfl ?_
        refine x_iastB dX1_fillTrack_32 rfl (fun s3 => ?_)
        refine x_iinc dX1_fillTrack_33 rfl rfl rfl rfl ?_
        refine x_goto 2 dX1_fillTrack_36 (by decide) ?_
        exact x_sub (x_le_s rfl (x_le_s rfl (x_le_s rfl (x_le_s rfl (x_le_n x_le_e))))) (ih _ _)
      · exact x_vret dX1_fillTrack_24 rfl

theorem c_X1_fillTrack (a2 : Int32) (σ : xSt) : CON κv yX1_fillTrack m_X1_fillTrack true 3 shC [.ref 28, .ref 5, .int a2] σ (f_X1_fillTrack a2 σ) := by
  refine x_con (L := [some (.ref 28), some (.ref 5), some (.int a2), none, none]) (by decide) rfl rfl rfl ?_
  unfold f_X1_fillTrack
  refine x_iconst (v := 0) dX1_fillTrack_0 rfl ?_
  refine x_istore_n dX1_fillTrack_1 rfl rfl rfl ?_
  refine x_sub (x_le_s rfl (x_le_s rfl (x_le_s rfl (x_le_s rfl (x_le_n x_le_e))))) (t_X1_fillTrack_2 _ _ (fun  s4 => ?_) FU _ _)
  exact x_vret dX1_fillTrack_39 rfl

theorem t_X1_fillFromLeft_6 (k : xSt → Option (Unit × xSt)) (hk : ∀ (σ : xSt), XP κv true m_X1_fillFromLeft 4 shC 24 [none, none, none] [] σ (k  σ)) : ∀ (n : Nat) (w2 : Int32) (σ : xSt), XP κv true m_X1_fillFromLeft 4 shC 6 [some (.ref 28), some (.ref 5), some (.int w2)] [] σ (f_X1_fillFromLeft_6 k n w2 σ) := by
  intro n
  induction n with
  | zero => intro w2 σ; exact x_none
  | succ n ih =>
    intro w2 σ
    rw [f_X1_fillFromLeft_6]
    refine x_iload_n dX1_fillFromLeft_6 rfl rfl ?_
    refine x_bipush (v := 14) dX1_fillFromLeft_7 rfl ?_
    refine x_icmp_ge 24 dX1_fillFromLeft_9 (by decide) (fun _ => ?_) (fun _ => ?_)
    · exact x_sub (x_le_n (x_le_n (x_le_n x_le_e))) (hk  _)
    · refine x_aload_n dX1_fillFromLeft_12 rfl rfl ?_
      refine x_aload_n dX1_fillFromLeft_13 rfl rfl ?_
      refine x_iload_n dX1_fillFromLeft_14 rfl rfl ?_
      refine x_callV2v dX1_fillFromLeft_15 lc_RX1_84 (c_X1_fillTrack _ _) rfl rfl rfl rfl rfl (fun r3 s4 => ?_)
      refine x_iinc dX1_fillFromLeft_18 rfl rfl rfl rfl ?_
      refine x_goto 6 dX1_fillFromLeft_21 (by decide) ?_
      exact x_sub (x_le_s rfl (x_le_s rfl (x_le_s rfl x_le_e))) (ih _ _)

theorem c_X1_fillFromLeft (σ : xSt) : CON κv yX1_fillFromLeft m_X1_fillFromLeft true 4 shC [.ref 28, .ref 5] σ (f_X1_fillFromLeft σ) := by
  refine x_con (L := [some (.ref 28), some (.ref 5), none]) (by decide) rfl rfl rfl ?_
  unfold f_X1_fillFromLeft
  refine x_aload_n dX1_fillFromLeft_0 rfl rfl ?_
  refine x_callV0v dX1_fillFromLeft_1 lc_RX1_15 (c_X1_takeAllAway _) rfl rfl rfl rfl rfl (fun r1 s2 => ?_)
  refine x_iconst (v := 0) dX1_fillFromLeft_4 rfl ?_
  refine x_istore_n dX1_fillFromLeft_5 rfl rfl rfl ?_
  refine x_sub (x_le_s rfl (x_le_s rfl (x_le_s rfl x_le_e))) (t_X1_fillFromLeft_6 _ (fun  s5 => ?_) FU _ _)
  exact x_vret dX1_fillFromLeft_24 rfl

theorem t_X1_placeFrom_24 (dd : Nat) (rec : Int32 → Int32 → xSt → Option (Int32 × xSt)) (hrec : ∀ a b σ, CON κi yX1_placeFrom m_X1_placeFrom true (5 + dd) shC [.ref 28, .ref 5, .int a, .int b] σ (rec a b σ)) (w2 : Int32) (w3 : Int32) (k : xSt → Option (Int32 × xSt)) (hk : ∀ (σ : xSt), XP κi true m_X1_placeFrom (5 + (dd + 1)) shC 74 [some (.ref 28), none, some (.int w2), none, none] [] σ (k  σ)) : ∀ (n : Nat) (w4 : Int32) (σ : xSt), XP κi true m_X1_placeFrom (5 + (dd + 1)) shC 24 [some (.ref 28), some (.ref 5), some (.int w2), some (.int w3), some (.int w4)] [] σ (f_X1_placeFrom_24 rec w2 w3 k n w4 σ) := by
  intro n
  induction n with
  | zero => intro w4 σ; exact x_none
  | succ n ih =>
    intro w4 σ
    rw [f_X1_placeFrom_24]
    refine x_iload dX1_placeFrom_24 rfl ?_
    refine x_iload_n dX1_placeFrom_26 rfl rfl ?_
    refine x_aload_n dX1_placeFrom_27 rfl rfl ?_
    refine x_getR dX1_placeFrom_28 lk_RX1_105 rfl rfl ?_
    refine x_iload_n dX1_placeFrom_31 rfl rfl ?_
    refine x_iald dX1_placeFrom_32 rfl ?_
    refine x_isub dX1_placeFrom_33 ?_
    refine x_icmp_ge 74 dX1_placeFrom_34 (by decide) (fun _ => ?_) (fun _ => ?_)
    · exact x_sub (x_le_s rfl (x_le_n (x_le_s rfl (x_le_n (x_le_n x_le_e))))) (hk  _)
    · refine x_aload_n dX1_placeFrom_37 rfl rfl ?_
      refine x_getR dX1_placeFrom_38 lk_RX1_9 rfl rfl ?_
      refine x_iload_n dX1_placeFrom_41 rfl rfl ?_
      refine x_iload dX1_placeFrom_42 rfl ?_
      refine x_iastB dX1_placeFrom_44 rfl (fun s2 => ?_)
      refine x_aload_n dX1_placeFrom_45 rfl rfl ?_
      refine x_aload_n dX1_placeFrom_46 rfl rfl ?_
      refine x_iload_n dX1_placeFrom_47 rfl rfl ?_
      refine x_callV2i dX1_placeFrom_48 lc_RX1_30 (c_X1_fitsBefore _ _) rfl rfl rfl (Nat.ble_eq.mpr (by omega)) rfl (fun r3 s4 => ?_)
      refine x_jn 68 (fun (v7 : Unit) => [some (.ref 28), some (.ref 5), some (.int w2), some (.int w3), some (.int w4)]) (fun (v7 : Unit) => []) (fun v7 s8 => ?_) (fun j9 hj9 => ?_)
      · refine x_iinc dX1_placeFrom_68 rfl rfl rfl rfl ?_
        refine x_goto 24 dX1_placeFrom_71 (by decide) ?_
        exact x_sub (x_le_s rfl (x_le_s rfl (x_le_s rfl (x_le_s rfl (x_le_s rfl x_le_e))))) (ih _ _)
      · refine x_if_eq 68 dX1_placeFrom_51 (by decide) (fun _ => ?_) (fun _ => ?_)
        · exact x_sub (x_le_s rfl (x_le_s rfl (x_le_s rfl (x_le_s rfl (x_le_s rfl x_le_e))))) (hj9 () _)
        · refine x_aload_n dX1_placeFrom_54 rfl rfl ?_
          refine x_aload_n dX1_placeFrom_55 rfl rfl ?_
          refine x_iload_n dX1_placeFrom_56 rfl rfl ?_
          refine x_iconst (v := 1) dX1_placeFrom_57 rfl ?_
          refine x_iadd dX1_placeFrom_58 ?_
          refine x_iload_n dX1_placeFrom_59 rfl rfl ?_
          refine x_callV3i dX1_placeFrom_60 lc_RX1_99 (hrec _ _ _) rfl rfl rfl (Nat.ble_eq.mpr (by omega)) rfl (fun r10 s11 => ?_)
          refine x_if_eq 68 dX1_placeFrom_63 (by decide) (fun _ => ?_) (fun _ => ?_)
          · exact x_sub (x_le_s rfl (x_le_s rfl (x_le_s rfl (x_le_s rfl (x_le_s rfl x_le_e))))) (hj9 () _)
          · refine x_iconst (v := 1) dX1_placeFrom_66 rfl ?_
            exact x_zret dX1_placeFrom_67 rfl

theorem t_X1_placeFrom_b (dd : Nat) (rec : Int32 → Int32 → xSt → Option (Int32 × xSt)) (hrec : ∀ a b σ, CON κi yX1_placeFrom m_X1_placeFrom true (5 + dd) shC [.ref 28, .ref 5, .int a, .int b] σ (rec a b σ)) (a2 : Int32) (a3 : Int32) (σ : xSt) : XP κi true m_X1_placeFrom (5 + (dd + 1)) shC 0 [some (.ref 28), some (.ref 5), some (.int a2), some (.int a3), none] [] σ (f_X1_placeFrom_b rec a2 a3 σ) := by
  unfold f_X1_placeFrom_b
  refine x_iload_n dX1_placeFrom_0 rfl rfl ?_
  refine x_aload_n dX1_placeFrom_1 rfl rfl ?_
  refine x_getI dX1_placeFrom_2 lk_RX1_24 rfl rfl ?_
  refine x_jn 14 (fun (v14 : Unit) => [none, none, none, none, none]) (fun (v14 : Unit) => []) (fun v14 s15 => ?_) (fun j16 hj16 => ?_)
  · refine x_iconst (v := 1) dX1_placeFrom_14 rfl ?_
    exact x_zret dX1_placeFrom_15 rfl
  · refine x_icmp_ge 14 dX1_placeFrom_5 (by decide) (fun _ => ?_) (fun _ => ?_)
    · exact x_sub (x_le_n (x_le_n (x_le_n (x_le_n (x_le_n x_le_e))))) (hj16 () _)
    · refine x_iload_n dX1_placeFrom_8 rfl rfl ?_
      refine x_bipush (v := 8) dX1_placeFrom_9 rfl ?_
      refine x_icmp_lt 16 dX1_placeFrom_11 (by decide) (fun _ => ?_) (fun _ => ?_)
      · refine x_aload_n dX1_placeFrom_16 rfl rfl ?_
        refine x_getR dX1_placeFrom_17 lk_RX1_102 rfl rfl ?_
        refine x_iload_n dX1_placeFrom_20 rfl rfl ?_
        refine x_iald dX1_placeFrom_21 rfl ?_
        refine x_istoreB dX1_placeFrom_22 rfl rfl (fun x17 => ?_)
        refine x_sub (x_le_s rfl (x_le_s rfl (x_le_s rfl (x_le_s rfl (x_le_s rfl x_le_e))))) (t_X1_placeFrom_24 dd rec hrec _ _ _ (fun  s28 => ?_) FU _ _)
        refine x_aload_n dX1_placeFrom_74 rfl rfl ?_
        refine x_getR dX1_placeFrom_75 lk_RX1_9 rfl rfl ?_
        refine x_iload_n dX1_placeFrom_78 rfl rfl ?_
        refine x_iconst (v := -1) dX1_placeFrom_79 rfl ?_
        refine x_iastB dX1_placeFrom_80 rfl (fun s29 => ?_)
        refine x_iconst (v := 0) dX1_placeFrom_81 rfl ?_
        exact x_zret dX1_placeFrom_82 rfl
      · exact x_sub (x_le_n (x_le_n (x_le_n (x_le_n (x_le_n x_le_e))))) (hj16 () _)

theorem c_X1_placeFrom (d : Nat) : ∀ (a b : Int32) (σ : xSt), CON κi yX1_placeFrom m_X1_placeFrom true (5 + d) shC [.ref 28, .ref 5, .int a, .int b] σ (f_X1_placeFrom d a b σ) := by
  induction d with
  | zero => intro a b σ r σ' ho; cases ho
  | succ d ih =>
    intro a b σ
    rw [f_X1_placeFrom]
    exact x_con (L := [some (.ref 28), some (.ref 5), some (.int a), some (.int b), none]) (by decide) rfl rfl rfl (t_X1_placeFrom_b d (f_X1_placeFrom d) ih a b σ)
