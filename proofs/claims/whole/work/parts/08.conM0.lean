theorem c_X7_within (a0 : Int32) (a1 : Int32) (a2 : Int32) (σ : xSt) : CON κi yX7_within m_X7_within false 0 shM [.int a0, .int a1, .int a2] σ (f_X7_within a0 a1 a2 σ) := by
  refine x_con (L := [some (.int a0), some (.int a1), some (.int a2)]) (by decide) rfl rfl rfl ?_
  unfold f_X7_within
  refine x_iload_n dX7_within_0 rfl rfl ?_
  refine x_iload_n dX7_within_1 rfl rfl ?_
  refine x_jn 15 (fun (v4 : Int32) => [none, none, none]) (fun (v4 : Int32) => [.int v4]) (fun v4 s5 => ?_) (fun j6 hj6 => ?_)
  · exact x_zret dX7_within_15 rfl
  · refine x_jn 14 (fun (v7 : Unit) => [none, none, none]) (fun (v7 : Unit) => []) (fun v7 s8 => ?_) (fun j9 hj9 => ?_)
    · refine x_iconst (v := 0) dX7_within_14 rfl ?_
      exact x_sub (x_le_n (x_le_n (x_le_n x_le_e))) (hj6 0 _)
    · refine x_icmp_lt 14 dX7_within_2 (by decide) (fun _ => ?_) (fun _ => ?_)
      · exact x_sub (x_le_n (x_le_n (x_le_n x_le_e))) (hj9 () _)
      · refine x_iload_n dX7_within_5 rfl rfl ?_
        refine x_iload_n dX7_within_6 rfl rfl ?_
        refine x_icmp_gt 14 dX7_within_7 (by decide) (fun _ => ?_) (fun _ => ?_)
        · exact x_sub (x_le_n (x_le_n (x_le_n x_le_e))) (hj9 () _)
        · refine x_iconst (v := 1) dX7_within_10 rfl ?_
          refine x_goto 15 dX7_within_11 (by decide) ?_
          exact x_sub (x_le_n (x_le_n (x_le_n x_le_e))) (hj6 1 _)

theorem c_X7_isBit (a0 : Int32) (a1 : Int32) (σ : xSt) : CON κi yX7_isBit m_X7_isBit false 0 shM [.int a0, .int a1] σ (f_X7_isBit a0 a1 σ) := by
  refine x_con (L := [some (.int a0), some (.int a1)]) (by decide) rfl rfl rfl ?_
  unfold f_X7_isBit
  refine x_iload_n dX7_isBit_0 rfl rfl ?_
  refine x_iload_n dX7_isBit_1 rfl rfl ?_
  refine x_ishr dX7_isBit_2 ?_
  refine x_iconst (v := 1) dX7_isBit_3 rfl ?_
  refine x_iand dX7_isBit_4 ?_
  refine x_iconst (v := 1) dX7_isBit_5 rfl ?_
  refine x_jn 14 (fun (v1 : Int32) => [none, none]) (fun (v1 : Int32) => [.int v1]) (fun v1 s2 => ?_) (fun j3 hj3 => ?_)
  · exact x_zret dX7_isBit_14 rfl
  · refine x_icmp_ne 13 dX7_isBit_6 (by decide) (fun _ => ?_) (fun _ => ?_)
    · refine x_iconst (v := 0) dX7_isBit_13 rfl ?_
      exact x_sub (x_le_n (x_le_n x_le_e)) (hj3 0 _)
    · refine x_iconst (v := 1) dX7_isBit_9 rfl ?_
      refine x_goto 14 dX7_isBit_10 (by decide) ?_
      exact x_sub (x_le_n (x_le_n x_le_e)) (hj3 1 _)

theorem t_X7_size_4 (w0 : Int32) (k : Int32 → xSt → Option (Int32 × xSt)) (hk : ∀ (w1 : Int32) (σ : xSt), XP κi false m_X7_size 0 shM 24 [none, some (.int w1), none] [] σ (k w1 σ)) : ∀ (n : Nat) (w1 : Int32) (w2 : Int32) (σ : xSt), XP κi false m_X7_size 0 shM 4 [some (.int w0), some (.int w1), some (.int w2)] [] σ (f_X7_size_4 w0 k n w1 w2 σ) := by
  intro n
  induction n with
  | zero => intro w1 w2 σ; exact x_none
  | succ n ih =>
    intro w1 w2 σ
    rw [f_X7_size_4]
    refine x_iload_n dX7_size_4 rfl rfl ?_
    refine x_bipush (v := 16) dX7_size_5 rfl ?_
    refine x_icmp_ge 24 dX7_size_7 (by decide) (fun _ => ?_) (fun _ => ?_)
    · exact x_sub (x_le_n (x_le_s rfl (x_le_n x_le_e))) (hk _ _)
    · refine x_iload_n dX7_size_10 rfl rfl ?_
      refine x_iload_n dX7_size_11 rfl rfl ?_
      refine x_iload_n dX7_size_12 rfl rfl ?_
      refine x_ishr dX7_size_13 ?_
      refine x_iconst (v := 1) dX7_size_14 rfl ?_
      refine x_iand dX7_size_15 ?_
      refine x_iadd dX7_size_16 ?_
      refine x_istore_nB dX7_size_17 rfl rfl rfl (fun x1 => ?_)
      refine x_iinc dX7_size_18 rfl rfl rfl rfl ?_
      refine x_goto 4 dX7_size_21 (by decide) ?_
      exact x_sub (x_le_s rfl (x_le_s rfl (x_le_s rfl x_le_e))) (ih _ _ _)

theorem c_X7_size (a0 : Int32) (σ : xSt) : CON κi yX7_size m_X7_size false 0 shM [.int a0] σ (f_X7_size a0 σ) := by
  refine x_con (L := [some (.int a0), none, none]) (by decide) rfl rfl rfl ?_
  unfold f_X7_size
  refine x_iconst (v := 0) dX7_size_0 rfl ?_
  refine x_istore_n dX7_size_1 rfl rfl rfl ?_
  refine x_iconst (v := 0) dX7_size_2 rfl ?_
  refine x_istore_n dX7_size_3 rfl rfl rfl ?_
  refine x_sub (x_le_s rfl (x_le_s rfl (x_le_s rfl x_le_e))) (t_X7_size_4 _ _ (fun e2 s3 => ?_) FU _ _ _)
  refine x_iload_n dX7_size_24 rfl rfl ?_
  exact x_iret dX7_size_25 rfl

theorem t_X7_leastOf_2 (w0 : Int32) (k : Int32 → xSt → Option (Int32 × xSt)) (hk : ∀ (w1 : Int32) (σ : xSt), XP κi false m_X7_leastOf 1 shM 22 [none, some (.int w1)] [] σ (k w1 σ)) : ∀ (n : Nat) (w1 : Int32) (σ : xSt), XP κi false m_X7_leastOf 1 shM 2 [some (.int w0), some (.int w1)] [] σ (f_X7_leastOf_2 w0 k n w1 σ) := by
  intro n
  induction n with
  | zero => intro w1 σ; exact x_none
  | succ n ih =>
    intro w1 σ
    rw [f_X7_leastOf_2]
    refine x_iload_n dX7_leastOf_2 rfl rfl ?_
    refine x_bipush (v := 16) dX7_leastOf_3 rfl ?_
    refine x_icmp_ge 22 dX7_leastOf_5 (by decide) (fun _ => ?_) (fun _ => ?_)
    · exact x_sub (x_le_n (x_le_s rfl x_le_e)) (hk _ _)
    · refine x_iload_n dX7_leastOf_8 rfl rfl ?_
      refine x_iload_n dX7_leastOf_9 rfl rfl ?_
      refine x_callS2i dX7_leastOf_10 lc_RX7_43 (c_X7_isBit _ _ _) rfl rfl (fun r1 s2 => ?_)
      refine x_if_ne 22 dX7_leastOf_13 (by decide) (fun _ => ?_) (fun _ => ?_)
      · exact x_sub (x_le_n (x_le_s rfl x_le_e)) (hk _ _)
      · refine x_iinc dX7_leastOf_16 rfl rfl rfl rfl ?_
        refine x_goto 2 dX7_leastOf_19 (by decide) ?_
        exact x_sub (x_le_s rfl (x_le_s rfl x_le_e)) (ih _ _)

theorem c_X7_leastOf (a0 : Int32) (σ : xSt) : CON κi yX7_leastOf m_X7_leastOf false 1 shM [.int a0] σ (f_X7_leastOf a0 σ) := by
  refine x_con (L := [some (.int a0), none]) (by decide) rfl rfl rfl ?_
  unfold f_X7_leastOf
  refine x_iconst (v := 0) dX7_leastOf_0 rfl ?_
  refine x_istore_n dX7_leastOf_1 rfl rfl rfl ?_
  refine x_sub (x_le_s rfl (x_le_s rfl x_le_e)) (t_X7_leastOf_2 _ _ (fun e3 s4 => ?_) FU _ _)
  refine x_iload_n dX7_leastOf_22 rfl rfl ?_
  refine x_bipush (v := 16) dX7_leastOf_23 rfl ?_
  refine x_jn 33 (fun (v5 : Int32) => [none, none]) (fun (v5 : Int32) => [.int v5]) (fun v5 s6 => ?_) (fun j7 hj7 => ?_)
  · exact x_iret dX7_leastOf_33 rfl
  · refine x_icmp_ge 32 dX7_leastOf_25 (by decide) (fun _ => ?_) (fun _ => ?_)
    · refine x_iconst (v := -1) dX7_leastOf_32 rfl ?_
      exact x_sub (x_le_n (x_le_n x_le_e)) (hj7 (-1) _)
    · refine x_iload_n dX7_leastOf_28 rfl rfl ?_
      refine x_goto 33 dX7_leastOf_29 (by decide) ?_
      exact x_sub (x_le_n (x_le_n x_le_e)) (hj7 e3 _)

theorem c_X7_letter (a1 : Int32) (σ : xSt) : CON κi yX7_letter m_X7_letter false 1 shM [.ref 0, .int a1] σ (f_X7_letter a1 σ) := by
  refine x_con (L := [some (.ref 0), some (.int a1)]) (by decide) rfl rfl rfl ?_
  unfold f_X7_letter
  refine x_iload_n dX7_letter_0 rfl rfl ?_
  refine x_bipush (v := 32) dX7_letter_1 rfl ?_
  refine x_bipush (v := 126) dX7_letter_3 rfl ?_
  refine x_callS3i dX7_letter_5 lc_RX7_47 (c_X7_within _ _ _ _) rfl rfl (fun r1 s2 => ?_)
  refine x_if_ne 14 dX7_letter_8 (by decide) (fun _ => ?_) (fun _ => ?_)
  · refine x_aload_n dX7_letter_14 rfl rfl ?_
    refine x_getI dX7_letter_15 lk_RX7_51 rfl rfl ?_
    refine x_bipush (v := 20) dX7_letter_18 rfl ?_
    refine x_icmp_ne 26 dX7_letter_20 (by decide) (fun _ => ?_) (fun _ => ?_)
    · refine x_aload_n dX7_letter_26 rfl rfl ?_
      refine x_getR dX7_letter_27 lk_RX7_34 rfl rfl ?_
      refine x_aload_n dX7_letter_30 rfl rfl ?_
      refine x_getI dX7_letter_31 lk_RX7_51 rfl rfl ?_
      refine x_iload_n dX7_letter_34 rfl rfl ?_
      refine x_iastB dX7_letter_35 rfl (fun s3 => ?_)
      refine x_aload_n dX7_letter_36 rfl rfl ?_
      refine x_dup dX7_letter_37 rfl ?_
      refine x_getI dX7_letter_38 lk_RX7_51 rfl rfl ?_
      refine x_iconst (v := 1) dX7_letter_41 rfl ?_
      refine x_iadd dX7_letter_42 ?_
      refine x_putIB dX7_letter_43 lp_RX7_51 rfl rfl (fun s4 => ?_)
      refine x_aload_n dX7_letter_46 rfl rfl ?_
      refine x_getI dX7_letter_47 lk_RX7_51 rfl rfl ?_
      exact x_iret dX7_letter_50 rfl
    · refine x_bipush (v := -104) dX7_letter_23 rfl ?_
      exact x_iret dX7_letter_25 rfl
  · refine x_bipush (v := -102) dX7_letter_11 rfl ?_
    exact x_iret dX7_letter_13 rfl

theorem c_X7_blank (σ : xSt) : CON κi yX7_blank m_X7_blank false 0 shM [.ref 0] σ (f_X7_blank σ) := by
  refine x_con (L := [some (.ref 0), none]) (by decide) rfl rfl rfl ?_
  unfold f_X7_blank
  refine x_aload_n dX7_blank_0 rfl rfl ?_
  refine x_getI dX7_blank_1 lk_RX7_51 rfl rfl ?_
  refine x_istore_nB dX7_blank_4 rfl rfl rfl (fun x1 => ?_)
  refine x_aload_n dX7_blank_5 rfl rfl ?_
  refine x_iconst (v := 0) dX7_blank_6 rfl ?_
  refine x_putIB dX7_blank_7 lp_RX7_51 rfl rfl (fun s2 => ?_)
  refine x_iload_n dX7_blank_10 rfl rfl ?_
  exact x_iret dX7_blank_11 rfl

theorem c_X7_isPin (a0 : Int32) (σ : xSt) : CON κi yX7_isPin m_X7_isPin false 1 shM [.int a0] σ (f_X7_isPin a0 σ) := by
  refine x_con (L := [some (.int a0)]) (by decide) rfl rfl rfl ?_
  unfold f_X7_isPin
  refine x_iload_n dX7_isPin_0 rfl rfl ?_
  refine x_bipush (v := 46) dX7_isPin_1 rfl ?_
  refine x_jn 22 (fun (v8 : Int32) => [none]) (fun (v8 : Int32) => [.int v8]) (fun v8 s9 => ?_) (fun j10 hj10 => ?_)
  · exact x_zret dX7_isPin_22 rfl
  · refine x_jn 17 (fun (v13 : Unit) => [none]) (fun (v13 : Unit) => []) (fun v13 s14 => ?_) (fun j15 hj15 => ?_)
    · refine x_iconst (v := 1) dX7_isPin_17 rfl ?_
      refine x_goto 22 dX7_isPin_18 (by decide) ?_
      exact x_sub (x_le_n x_le_e) (hj10 1 _)
    · refine x_icmp_eq 17 dX7_isPin_3 (by decide) (fun _ => ?_) (fun _ => ?_)
      · exact x_sub (x_le_n x_le_e) (hj15 () _)
      · refine x_iload_n dX7_isPin_6 rfl rfl ?_
        refine x_bipush (v := 97) dX7_isPin_7 rfl ?_
        refine x_bipush (v := 102) dX7_isPin_9 rfl ?_
        refine x_callS3i dX7_isPin_11 lc_RX7_47 (c_X7_within _ _ _ _) rfl rfl (fun r16 s17 => ?_)
        refine x_if_eq 21 dX7_isPin_14 (by decide) (fun _ => ?_) (fun _ => ?_)
        · refine x_iconst (v := 0) dX7_isPin_21 rfl ?_
          exact x_sub (x_le_n x_le_e) (hj10 0 _)
        · exact x_sub (x_le_n x_le_e) (hj15 () _)

theorem t_X7_pinsFrom_2 (w1 : Int32) (w2 : Int32) (k : Int32 → xSt → Option (Int32 × xSt)) (hk : ∀ (w3 : Int32) (σ : xSt), XP κi false m_X7_pinsFrom 2 shM 37 [none, none, none, some (.int w3)] [] σ (k w3 σ)) : ∀ (n : Nat) (w3 : Int32) (σ : xSt), XP κi false m_X7_pinsFrom 2 shM 2 [some (.ref 0), some (.int w1), some (.int w2), some (.int w3)] [] σ (f_X7_pinsFrom_2 w1 w2 k n w3 σ) := by
  intro n
  induction n with
  | zero => intro w3 σ; exact x_none
  | succ n ih =>
    intro w3 σ
    rw [f_X7_pinsFrom_2]
    refine x_iload_n dX7_pinsFrom_2 rfl rfl ?_
    refine x_iload_n dX7_pinsFrom_3 rfl rfl ?_
    refine x_icmp_ge 37 dX7_pinsFrom_4 (by decide) (fun _ => ?_) (fun _ => ?_)
    · exact x_sub (x_le_n (x_le_n (x_le_n (x_le_s rfl x_le_e)))) (hk _ _)
    · refine x_iload_n dX7_pinsFrom_7 rfl rfl ?_
      refine x_iload_n dX7_pinsFrom_8 rfl rfl ?_
      refine x_iadd dX7_pinsFrom_9 ?_
      refine x_aload_n dX7_pinsFrom_10 rfl rfl ?_
      refine x_getI dX7_pinsFrom_11 lk_RX7_51 rfl rfl ?_
      refine x_icmp_ge 37 dX7_pinsFrom_14 (by decide) (fun _ => ?_) (fun _ => ?_)
      · exact x_sub (x_le_n (x_le_n (x_le_n (x_le_s rfl x_le_e)))) (hk _ _)
      · refine x_aload_n dX7_pinsFrom_17 rfl rfl ?_
        refine x_getR dX7_pinsFrom_18 lk_RX7_34 rfl rfl ?_
        refine x_iload_n dX7_pinsFrom_21 rfl rfl ?_
        refine x_iload_n dX7_pinsFrom_22 rfl rfl ?_
        refine x_iadd dX7_pinsFrom_23 ?_
        refine x_iald dX7_pinsFrom_24 rfl ?_
        refine x_callS1i dX7_pinsFrom_25 lc_RX7_55 (c_X7_isPin _ _) rfl rfl (fun r1 s2 => ?_)
        refine x_if_eq 37 dX7_pinsFrom_28 (by decide) (fun _ => ?_) (fun _ => ?_)
        · exact x_sub (x_le_n (x_le_n (x_le_n (x_le_s rfl x_le_e)))) (hk _ _)
        · refine x_iinc dX7_pinsFrom_31 rfl rfl rfl rfl ?_
          refine x_goto 2 dX7_pinsFrom_34 (by decide) ?_
          exact x_sub (x_le_s rfl (x_le_s rfl (x_le_s rfl (x_le_s rfl x_le_e)))) (ih _ _)

theorem c_X7_pinsFrom (a1 : Int32) (a2 : Int32) (σ : xSt) : CON κi yX7_pinsFrom m_X7_pinsFrom false 2 shM [.ref 0, .int a1, .int a2] σ (f_X7_pinsFrom a1 a2 σ) := by
  refine x_con (L := [some (.ref 0), some (.int a1), some (.int a2), none]) (by decide) rfl rfl rfl ?_
  unfold f_X7_pinsFrom
  refine x_iconst (v := 0) dX7_pinsFrom_0 rfl ?_
  refine x_istore_n dX7_pinsFrom_1 rfl rfl rfl ?_
  refine x_sub (x_le_s rfl (x_le_s rfl (x_le_s rfl (x_le_s rfl x_le_e)))) (t_X7_pinsFrom_2 _ _ _ (fun e3 s4 => ?_) FU _ _)
  refine x_iload_n dX7_pinsFrom_37 rfl rfl ?_
  exact x_iret dX7_pinsFrom_38 rfl

theorem c_X7_readChannel (σ : xSt) : CON κi yX7_readChannel m_X7_readChannel false 3 shM [.ref 0] σ (f_X7_readChannel σ) := by
  refine x_con (L := [some (.ref 0), none, none]) (by decide) rfl rfl rfl ?_
  unfold f_X7_readChannel
  refine x_aload_n dX7_readChannel_0 rfl rfl ?_
  refine x_iconst (v := 0) dX7_readChannel_1 rfl ?_
  refine x_putZB dX7_readChannel_2 lp_RX7_59 rfl rfl (fun s1 => ?_)
  refine x_aload_n dX7_readChannel_5 rfl rfl ?_
  refine x_aload_n dX7_readChannel_6 rfl rfl ?_
  refine x_iconst (v := 0) dX7_readChannel_7 rfl ?_
  refine x_bipush (v := 8) dX7_readChannel_8 rfl ?_
  refine x_callV2i dX7_readChannel_10 lc_RX7_63 (c_X7_pinsFrom _ _ _) rfl rfl rfl rfl rfl (fun r2 s3 => ?_)
  refine x_putIB dX7_readChannel_13 lp_RX7_67 rfl rfl (fun s4 => ?_)
  refine x_aload_n dX7_readChannel_16 rfl rfl ?_
  refine x_getI dX7_readChannel_17 lk_RX7_67 rfl rfl ?_
  refine x_iconst (v := 2) dX7_readChannel_20 rfl ?_
  refine x_jn 49 (fun (v18 : Unit) => [some (.ref 0), none, none]) (fun (v18 : Unit) => []) (fun v18 s19 => ?_) (fun j20 hj20 => ?_)
  · refine x_aload_n dX7_readChannel_49 rfl rfl ?_
    refine x_getI dX7_readChannel_50 lk_RX7_67 rfl rfl ?_
    exact x_iret dX7_readChannel_53 rfl
  · refine x_icmp_lt 49 dX7_readChannel_21 (by decide) (fun _ => ?_) (fun _ => ?_)
    · exact x_sub (x_le_s rfl (x_le_n (x_le_n x_le_e))) (hj20 () _)
    · refine x_aload_n dX7_readChannel_24 rfl rfl ?_
      refine x_getI dX7_readChannel_25 lk_RX7_67 rfl rfl ?_
      refine x_aload_n dX7_readChannel_28 rfl rfl ?_
      refine x_getI dX7_readChannel_29 lk_RX7_51 rfl rfl ?_
      refine x_icmp_eq 49 dX7_readChannel_32 (by decide) (fun _ => ?_) (fun _ => ?_)
      · exact x_sub (x_le_s rfl (x_le_n (x_le_n x_le_e))) (hj20 () _)
      · refine x_aload_n dX7_readChannel_35 rfl rfl ?_
        refine x_getR dX7_readChannel_36 lk_RX7_34 rfl rfl ?_
        refine x_aload_n dX7_readChannel_39 rfl rfl ?_
        refine x_getI dX7_readChannel_40 lk_RX7_67 rfl rfl ?_
        refine x_iald dX7_readChannel_43 rfl ?_
        refine x_bipush (v := 47) dX7_readChannel_44 rfl ?_
        refine x_icmp_eq 54 dX7_readChannel_46 (by decide) (fun _ => ?_) (fun _ => ?_)
        · refine x_aload_n dX7_readChannel_54 rfl rfl ?_
          refine x_aload_n dX7_readChannel_55 rfl rfl ?_
          refine x_getI dX7_readChannel_56 lk_RX7_67 rfl rfl ?_
          refine x_iconst (v := 1) dX7_readChannel_59 rfl ?_
          refine x_iadd dX7_readChannel_60 ?_
          refine x_aload_n dX7_readChannel_61 rfl rfl ?_
          refine x_getI dX7_readChannel_62 lk_RX7_67 rfl rfl ?_
          refine x_callV2i dX7_readChannel_65 lc_RX7_63 (c_X7_pinsFrom _ _ _) rfl rfl rfl rfl rfl (fun r21 s22 => ?_)
          refine x_istore_n dX7_readChannel_68 rfl rfl rfl ?_
          refine x_aload_n dX7_readChannel_69 rfl rfl ?_
          refine x_getI dX7_readChannel_70 lk_RX7_67 rfl rfl ?_
          refine x_iconst (v := 1) dX7_readChannel_73 rfl ?_
          refine x_iadd dX7_readChannel_74 ?_
          refine x_iload_n dX7_readChannel_75 rfl rfl ?_
          refine x_iadd dX7_readChannel_76 ?_
          refine x_istore_nB dX7_readChannel_77 rfl rfl rfl (fun x23 => ?_)
          refine x_aload_n dX7_readChannel_78 rfl rfl ?_
          refine x_iload_n dX7_readChannel_79 rfl rfl ?_
          refine x_aload_n dX7_readChannel_80 rfl rfl ?_
          refine x_getI dX7_readChannel_81 lk_RX7_67 rfl rfl ?_
          refine x_jn 100 (fun (v27 : Int32) => [none, none, some (.int x23)]) (fun (v27 : Int32) => [.int v27, .ref 0]) (fun v27 s28 => ?_) (fun j29 hj29 => ?_)
          · refine x_putZB dX7_readChannel_100 lp_RX7_59 rfl rfl (fun s30 => ?_)
            refine x_iload_n dX7_readChannel_103 rfl rfl ?_
            exact x_iret dX7_readChannel_104 rfl
          · refine x_jn 99 (fun (v31 : Unit) => [none, none, some (.int x23)]) (fun (v31 : Unit) => [.ref 0]) (fun v31 s32 => ?_) (fun j33 hj33 => ?_)
            · refine x_iconst (v := 0) dX7_readChannel_99 rfl ?_
              exact x_sub (x_le_n (x_le_n (x_le_s rfl x_le_e))) (hj29 0 _)
            · refine x_icmp_ne 99 dX7_readChannel_84 (by decide) (fun _ => ?_) (fun _ => ?_)
              · exact x_sub (x_le_n (x_le_n (x_le_s rfl x_le_e))) (hj33 () _)
              · refine x_iload_n dX7_readChannel_87 rfl rfl ?_
                refine x_aload_n dX7_readChannel_88 rfl rfl ?_
                refine x_getI dX7_readChannel_89 lk_RX7_51 rfl rfl ?_
                refine x_icmp_ne 99 dX7_readChannel_92 (by decide) (fun _ => ?_) (fun _ => ?_)
                · exact x_sub (x_le_n (x_le_n (x_le_s rfl x_le_e))) (hj33 () _)
                · refine x_iconst (v := 1) dX7_readChannel_95 rfl ?_
                  refine x_goto 100 dX7_readChannel_96 (by decide) ?_
                  exact x_sub (x_le_n (x_le_n (x_le_s rfl x_le_e))) (hj29 1 _)
        · exact x_sub (x_le_s rfl (x_le_n (x_le_n x_le_e))) (hj20 () _)

theorem c_X7_sayingAt (a0 : Int32) (a1 : Int32) (σ : xSt) : CON κi yX7_sayingAt m_X7_sayingAt false 0 shM [.int a0, .int a1] σ (f_X7_sayingAt a0 a1 σ) := by
  refine x_con (L := [some (.int a0), some (.int a1)]) (by decide) rfl rfl rfl ?_
  unfold f_X7_sayingAt
  refine x_iload_n dX7_sayingAt_0 rfl rfl ?_
  refine x_ite (fun c4 => ?_) (fun c4 => ?_)
  · refine x_tabI 36 dX7_sayingAt_1 c4 (by decide) (by decide) rfl (by decide) ?_
    refine x_iload_n dX7_sayingAt_36 rfl rfl ?_
    refine x_jn 76 (fun (v1 : Int32) => [none, none]) (fun (v1 : Int32) => [.int v1]) (fun v1 s2 => ?_) (fun j3 hj3 => ?_)
    · exact x_iret dX7_sayingAt_76 rfl
    · refine x_if_ne 45 dX7_sayingAt_37 (by decide) (fun _ => ?_) (fun _ => ?_)
      · refine x_iload_n dX7_sayingAt_45 rfl rfl ?_
        refine x_iconst (v := 1) dX7_sayingAt_46 rfl ?_
        refine x_icmp_ne 55 dX7_sayingAt_47 (by decide) (fun _ => ?_) (fun _ => ?_)
        · refine x_iload_n dX7_sayingAt_55 rfl rfl ?_
          refine x_iconst (v := 2) dX7_sayingAt_56 rfl ?_
          refine x_icmp_ne 65 dX7_sayingAt_57 (by decide) (fun _ => ?_) (fun _ => ?_)
          · refine x_iload_n dX7_sayingAt_65 rfl rfl ?_
            refine x_iconst (v := 3) dX7_sayingAt_66 rfl ?_
            refine x_icmp_ne 75 dX7_sayingAt_67 (by decide) (fun _ => ?_) (fun _ => ?_)
            · refine x_iconst (v := 0) dX7_sayingAt_75 rfl ?_
              exact x_sub (x_le_n (x_le_n x_le_e)) (hj3 0 _)
            · refine x_bipush (v := 107) dX7_sayingAt_70 rfl ?_
              refine x_goto 76 dX7_sayingAt_72 (by decide) ?_
              exact x_sub (x_le_n (x_le_n x_le_e)) (hj3 107 _)
          · refine x_bipush (v := 99) dX7_sayingAt_60 rfl ?_
            refine x_goto 76 dX7_sayingAt_62 (by decide) ?_
            exact x_sub (x_le_n (x_le_n x_le_e)) (hj3 99 _)
        · refine x_bipush (v := 97) dX7_sayingAt_50 rfl ?_
          refine x_goto 76 dX7_sayingAt_52 (by decide) ?_
          exact x_sub (x_le_n (x_le_n x_le_e)) (hj3 97 _)
      · refine x_bipush (v := 112) dX7_sayingAt_40 rfl ?_
        refine x_goto 76 dX7_sayingAt_42 (by decide) ?_
        exact x_sub (x_le_n (x_le_n x_le_e)) (hj3 112 _)
  refine x_ite (fun c8 => ?_) (fun c8 => ?_)
  · refine x_tabI 77 dX7_sayingAt_1 c8 (by decide) (by decide) rfl (by decide) ?_
    refine x_iload_n dX7_sayingAt_77 rfl rfl ?_
    refine x_jn 117 (fun (v5 : Int32) => [none, none]) (fun (v5 : Int32) => [.int v5]) (fun v5 s6 => ?_) (fun j7 hj7 => ?_)
    · exact x_iret dX7_sayingAt_117 rfl
    · refine x_if_ne 86 dX7_sayingAt_78 (by decide) (fun _ => ?_) (fun _ => ?_)
      · refine x_iload_n dX7_sayingAt_86 rfl rfl ?_
        refine x_iconst (v := 1) dX7_sayingAt_87 rfl ?_
        refine x_icmp_ne 96 dX7_sayingAt_88 (by decide) (fun _ => ?_) (fun _ => ?_)
        · refine x_iload_n dX7_sayingAt_96 rfl rfl ?_
          refine x_iconst (v := 2) dX7_sayingAt_97 rfl ?_
          refine x_icmp_ne 106 dX7_sayingAt_98 (by decide) (fun _ => ?_) (fun _ => ?_)
          · refine x_iload_n dX7_sayingAt_106 rfl rfl ?_
            refine x_iconst (v := 3) dX7_sayingAt_107 rfl ?_
            refine x_icmp_ne 116 dX7_sayingAt_108 (by decide) (fun _ => ?_) (fun _ => ?_)
            · refine x_iconst (v := 0) dX7_sayingAt_116 rfl ?_
              exact x_sub (x_le_n (x_le_n x_le_e)) (hj7 0 _)
            · refine x_bipush (v := 116) dX7_sayingAt_111 rfl ?_
              refine x_goto 117 dX7_sayingAt_113 (by decide) ?_
              exact x_sub (x_le_n (x_le_n x_le_e)) (hj7 116 _)
          · refine x_bipush (v := 115) dX7_sayingAt_101 rfl ?_
            refine x_goto 117 dX7_sayingAt_103 (by decide) ?_
            exact x_sub (x_le_n (x_le_n x_le_e)) (hj7 115 _)
        · refine x_bipush (v := 101) dX7_sayingAt_91 rfl ?_
          refine x_goto 117 dX7_sayingAt_93 (by decide) ?_
          exact x_sub (x_le_n (x_le_n x_le_e)) (hj7 101 _)
      · refine x_bipush (v := 98) dX7_sayingAt_81 rfl ?_
        refine x_goto 117 dX7_sayingAt_83 (by decide) ?_
        exact x_sub (x_le_n (x_le_n x_le_e)) (hj7 98 _)
  refine x_ite (fun c12 => ?_) (fun c12 => ?_)
  · refine x_tabI 118 dX7_sayingAt_1 c12 (by decide) (by decide) rfl (by decide) ?_
    refine x_iload_n dX7_sayingAt_118 rfl rfl ?_
    refine x_jn 168 (fun (v9 : Int32) => [none, none]) (fun (v9 : Int32) => [.int v9]) (fun v9 s10 => ?_) (fun j11 hj11 => ?_)
    · exact x_iret dX7_sayingAt_168 rfl
    · refine x_if_ne 127 dX7_sayingAt_119 (by decide) (fun _ => ?_) (fun _ => ?_)
      · refine x_iload_n dX7_sayingAt_127 rfl rfl ?_
        refine x_iconst (v := 1) dX7_sayingAt_128 rfl ?_
        refine x_icmp_ne 137 dX7_sayingAt_129 (by decide) (fun _ => ?_) (fun _ => ?_)
        · refine x_iload_n dX7_sayingAt_137 rfl rfl ?_
          refine x_iconst (v := 2) dX7_sayingAt_138 rfl ?_
          refine x_icmp_ne 147 dX7_sayingAt_139 (by decide) (fun _ => ?_) (fun _ => ?_)
          · refine x_iload_n dX7_sayingAt_147 rfl rfl ?_
            refine x_iconst (v := 3) dX7_sayingAt_148 rfl ?_
            refine x_icmp_ne 157 dX7_sayingAt_149 (by decide) (fun _ => ?_) (fun _ => ?_)
            · refine x_iload_n dX7_sayingAt_157 rfl rfl ?_
              refine x_iconst (v := 4) dX7_sayingAt_158 rfl ?_
              refine x_icmp_ne 167 dX7_sayingAt_159 (by decide) (fun _ => ?_) (fun _ => ?_)
              · refine x_iconst (v := 0) dX7_sayingAt_167 rfl ?_
                exact x_sub (x_le_n (x_le_n x_le_e)) (hj11 0 _)
              · refine x_bipush (v := 114) dX7_sayingAt_162 rfl ?_
                refine x_goto 168 dX7_sayingAt_164 (by decide) ?_
                exact x_sub (x_le_n (x_le_n x_le_e)) (hj11 114 _)
            · refine x_bipush (v := 97) dX7_sayingAt_152 rfl ?_
              refine x_goto 168 dX7_sayingAt_154 (by decide) ?_
              exact x_sub (x_le_n (x_le_n x_le_e)) (hj11 97 _)
          · refine x_bipush (v := 101) dX7_sayingAt_142 rfl ?_
            refine x_goto 168 dX7_sayingAt_144 (by decide) ?_
            exact x_sub (x_le_n (x_le_n x_le_e)) (hj11 101 _)
        · refine x_bipush (v := 108) dX7_sayingAt_132 rfl ?_
          refine x_goto 168 dX7_sayingAt_134 (by decide) ?_
          exact x_sub (x_le_n (x_le_n x_le_e)) (hj11 108 _)
      · refine x_bipush (v := 99) dX7_sayingAt_122 rfl ?_
        refine x_goto 168 dX7_sayingAt_124 (by decide) ?_
        exact x_sub (x_le_n (x_le_n x_le_e)) (hj11 99 _)
  refine x_ite (fun c16 => ?_) (fun c16 => ?_)
  · refine x_tabI 169 dX7_sayingAt_1 c16 (by decide) (by decide) rfl (by decide) ?_
    refine x_iload_n dX7_sayingAt_169 rfl rfl ?_
    refine x_jn 218 (fun (v13 : Int32) => [none, none]) (fun (v13 : Int32) => [.int v13]) (fun v13 s14 => ?_) (fun j15 hj15 => ?_)
    · exact x_iret dX7_sayingAt_218 rfl
    · refine x_if_ne 178 dX7_sayingAt_170 (by decide) (fun _ => ?_) (fun _ => ?_)
      · refine x_iload_n dX7_sayingAt_178 rfl rfl ?_
        refine x_iconst (v := 1) dX7_sayingAt_179 rfl ?_
        refine x_icmp_ne 188 dX7_sayingAt_180 (by decide) (fun _ => ?_) (fun _ => ?_)
        · refine x_iload_n dX7_sayingAt_188 rfl rfl ?_
          refine x_iconst (v := 2) dX7_sayingAt_189 rfl ?_
          refine x_icmp_ne 198 dX7_sayingAt_190 (by decide) (fun _ => ?_) (fun _ => ?_)
          · refine x_iload_n dX7_sayingAt_198 rfl rfl ?_
            refine x_iconst (v := 3) dX7_sayingAt_199 rfl ?_
            refine x_icmp_ne 208 dX7_sayingAt_200 (by decide) (fun _ => ?_) (fun _ => ?_)
            · refine x_iload_n dX7_sayingAt_208 rfl rfl ?_
              refine x_iconst (v := 4) dX7_sayingAt_209 rfl ?_
              refine x_icmp_ne 217 dX7_sayingAt_210 (by decide) (fun _ => ?_) (fun _ => ?_)
              · refine x_iconst (v := 0) dX7_sayingAt_217 rfl ?_
                exact x_sub (x_le_n (x_le_n x_le_e)) (hj15 0 _)
              · refine x_iconst (v := 1) dX7_sayingAt_213 rfl ?_
                refine x_goto 218 dX7_sayingAt_214 (by decide) ?_
                exact x_sub (x_le_n (x_le_n x_le_e)) (hj15 1 _)
            · refine x_bipush (v := 32) dX7_sayingAt_203 rfl ?_
              refine x_goto 218 dX7_sayingAt_205 (by decide) ?_
              exact x_sub (x_le_n (x_le_n x_le_e)) (hj15 32 _)
          · refine x_bipush (v := 116) dX7_sayingAt_193 rfl ?_
            refine x_goto 218 dX7_sayingAt_195 (by decide) ?_
            exact x_sub (x_le_n (x_le_n x_le_e)) (hj15 116 _)
        · refine x_bipush (v := 117) dX7_sayingAt_183 rfl ?_
          refine x_goto 218 dX7_sayingAt_185 (by decide) ?_
          exact x_sub (x_le_n (x_le_n x_le_e)) (hj15 117 _)
      · refine x_bipush (v := 99) dX7_sayingAt_173 rfl ?_
        refine x_goto 218 dX7_sayingAt_175 (by decide) ?_
        exact x_sub (x_le_n (x_le_n x_le_e)) (hj15 99 _)
  refine x_ite (fun c20 => ?_) (fun c20 => ?_)
  · refine x_tabI 219 dX7_sayingAt_1 c20 (by decide) (by decide) rfl (by decide) ?_
    refine x_iload_n dX7_sayingAt_219 rfl rfl ?_
    refine x_jn 289 (fun (v17 : Int32) => [none, none]) (fun (v17 : Int32) => [.int v17]) (fun v17 s18 => ?_) (fun j19 hj19 => ?_)
    · exact x_iret dX7_sayingAt_289 rfl
    · refine x_if_ne 228 dX7_sayingAt_220 (by decide) (fun _ => ?_) (fun _ => ?_)
      · refine x_iload_n dX7_sayingAt_228 rfl rfl ?_
        refine x_iconst (v := 1) dX7_sayingAt_229 rfl ?_
        refine x_icmp_ne 238 dX7_sayingAt_230 (by decide) (fun _ => ?_) (fun _ => ?_)
        · refine x_iload_n dX7_sayingAt_238 rfl rfl ?_
          refine x_iconst (v := 2) dX7_sayingAt_239 rfl ?_
          refine x_icmp_ne 248 dX7_sayingAt_240 (by decide) (fun _ => ?_) (fun _ => ?_)
          · refine x_iload_n dX7_sayingAt_248 rfl rfl ?_
            refine x_iconst (v := 3) dX7_sayingAt_249 rfl ?_
            refine x_icmp_ne 258 dX7_sayingAt_250 (by decide) (fun _ => ?_) (fun _ => ?_)
            · refine x_iload_n dX7_sayingAt_258 rfl rfl ?_
              refine x_iconst (v := 4) dX7_sayingAt_259 rfl ?_
              refine x_icmp_ne 268 dX7_sayingAt_260 (by decide) (fun _ => ?_) (fun _ => ?_)
              · refine x_iload_n dX7_sayingAt_268 rfl rfl ?_
                refine x_iconst (v := 5) dX7_sayingAt_269 rfl ?_
                refine x_icmp_ne 278 dX7_sayingAt_270 (by decide) (fun _ => ?_) (fun _ => ?_)
                · refine x_iload_n dX7_sayingAt_278 rfl rfl ?_
                  refine x_bipush (v := 6) dX7_sayingAt_279 rfl ?_
                  refine x_icmp_ne 288 dX7_sayingAt_281 (by decide) (fun _ => ?_) (fun _ => ?_)
                  · refine x_iconst (v := 0) dX7_sayingAt_288 rfl ?_
                    exact x_sub (x_le_n (x_le_n x_le_e)) (hj19 0 _)
                  · refine x_iconst (v := 1) dX7_sayingAt_284 rfl ?_
                    refine x_goto 289 dX7_sayingAt_285 (by decide) ?_
                    exact x_sub (x_le_n (x_le_n x_le_e)) (hj19 1 _)
                · refine x_bipush (v := 32) dX7_sayingAt_273 rfl ?_
                  refine x_goto 289 dX7_sayingAt_275 (by decide) ?_
                  exact x_sub (x_le_n (x_le_n x_le_e)) (hj19 32 _)
              · refine x_bipush (v := 101) dX7_sayingAt_263 rfl ?_
                refine x_goto 289 dX7_sayingAt_265 (by decide) ?_
                exact x_sub (x_le_n (x_le_n x_le_e)) (hj19 101 _)
            · refine x_bipush (v := 108) dX7_sayingAt_253 rfl ?_
              refine x_goto 289 dX7_sayingAt_255 (by decide) ?_
              exact x_sub (x_le_n (x_le_n x_le_e)) (hj19 108 _)
          · refine x_bipush (v := 111) dX7_sayingAt_243 rfl ?_
            refine x_goto 289 dX7_sayingAt_245 (by decide) ?_
            exact x_sub (x_le_n (x_le_n x_le_e)) (hj19 111 _)
        · refine x_bipush (v := 104) dX7_sayingAt_233 rfl ?_
          refine x_goto 289 dX7_sayingAt_235 (by decide) ?_
          exact x_sub (x_le_n (x_le_n x_le_e)) (hj19 104 _)
      · refine x_bipush (v := 119) dX7_sayingAt_223 rfl ?_
        refine x_goto 289 dX7_sayingAt_225 (by decide) ?_
        exact x_sub (x_le_n (x_le_n x_le_e)) (hj19 119 _)
  have ec4 := x_ne 0 (by decide) c4
  have ec8 := x_ne 1 (by decide) c8
  have ec12 := x_ne 2 (by decide) c12
  have ec16 := x_ne 3 (by decide) c16
  have ec20 := x_ne 4 (by decide) c20
  refine x_tabO 290 dX7_sayingAt_1 (by omega) (by decide) ?_
  refine x_iload_n dX7_sayingAt_290 rfl rfl ?_
  refine x_jn 349 (fun (v21 : Int32) => [none, none]) (fun (v21 : Int32) => [.int v21]) (fun v21 s22 => ?_) (fun j23 hj23 => ?_)
  · exact x_iret dX7_sayingAt_349 rfl
  · refine x_if_ne 299 dX7_sayingAt_291 (by decide) (fun _ => ?_) (fun _ => ?_)
    · refine x_iload_n dX7_sayingAt_299 rfl rfl ?_
      refine x_iconst (v := 1) dX7_sayingAt_300 rfl ?_
      refine x_icmp_ne 309 dX7_sayingAt_301 (by decide) (fun _ => ?_) (fun _ => ?_)
      · refine x_iload_n dX7_sayingAt_309 rfl rfl ?_
        refine x_iconst (v := 2) dX7_sayingAt_310 rfl ?_
        refine x_icmp_ne 319 dX7_sayingAt_311 (by decide) (fun _ => ?_) (fun _ => ?_)
        · refine x_iload_n dX7_sayingAt_319 rfl rfl ?_
          refine x_iconst (v := 3) dX7_sayingAt_320 rfl ?_
          refine x_icmp_ne 329 dX7_sayingAt_321 (by decide) (fun _ => ?_) (fun _ => ?_)
          · refine x_iload_n dX7_sayingAt_329 rfl rfl ?_
            refine x_iconst (v := 4) dX7_sayingAt_330 rfl ?_
            refine x_icmp_ne 339 dX7_sayingAt_331 (by decide) (fun _ => ?_) (fun _ => ?_)
            · refine x_iload_n dX7_sayingAt_339 rfl rfl ?_
              refine x_iconst (v := 5) dX7_sayingAt_340 rfl ?_
              refine x_icmp_ne 348 dX7_sayingAt_341 (by decide) (fun _ => ?_) (fun _ => ?_)
              · refine x_iconst (v := 0) dX7_sayingAt_348 rfl ?_
                exact x_sub (x_le_n (x_le_n x_le_e)) (hj23 0 _)
              · refine x_iconst (v := 2) dX7_sayingAt_344 rfl ?_
                refine x_goto 349 dX7_sayingAt_345 (by decide) ?_
                exact x_sub (x_le_n (x_le_n x_le_e)) (hj23 2 _)
            · refine x_bipush (v := 32) dX7_sayingAt_334 rfl ?_
              refine x_goto 349 dX7_sayingAt_336 (by decide) ?_
              exact x_sub (x_le_n (x_le_n x_le_e)) (hj23 32 _)
          · refine x_bipush (v := 110) dX7_sayingAt_324 rfl ?_
            refine x_goto 349 dX7_sayingAt_326 (by decide) ?_
            exact x_sub (x_le_n (x_le_n x_le_e)) (hj23 110 _)
        · refine x_bipush (v := 114) dX7_sayingAt_314 rfl ?_
          refine x_goto 349 dX7_sayingAt_316 (by decide) ?_
          exact x_sub (x_le_n (x_le_n x_le_e)) (hj23 114 _)
      · refine x_bipush (v := 117) dX7_sayingAt_304 rfl ?_
        refine x_goto 349 dX7_sayingAt_306 (by decide) ?_
        exact x_sub (x_le_n (x_le_n x_le_e)) (hj23 117 _)
    · refine x_bipush (v := 116) dX7_sayingAt_294 rfl ?_
      refine x_goto 349 dX7_sayingAt_296 (by decide) ?_
      exact x_sub (x_le_n (x_le_n x_le_e)) (hj23 116 _)

theorem c_X7_isAs (a0 : Int32) (a1 : Int32) (σ : xSt) : CON κi yX7_isAs m_X7_isAs false 1 shM [.int a0, .int a1] σ (f_X7_isAs a0 a1 σ) := by
  refine x_con (L := [some (.int a0), some (.int a1)]) (by decide) rfl rfl rfl ?_
  unfold f_X7_isAs
  refine x_iload_n dX7_isAs_0 rfl rfl ?_
  refine x_iconst (v := 1) dX7_isAs_1 rfl ?_
  refine x_icmp_ne 14 dX7_isAs_2 (by decide) (fun _ => ?_) (fun _ => ?_)
  · refine x_iload_n dX7_isAs_14 rfl rfl ?_
    refine x_iconst (v := 2) dX7_isAs_15 rfl ?_
    refine x_jn 44 (fun (v6 : Int32) => [none, none]) (fun (v6 : Int32) => [.int v6]) (fun v6 s7 => ?_) (fun j8 hj8 => ?_)
    · exact x_zret dX7_isAs_44 rfl
    · refine x_icmp_ne 30 dX7_isAs_16 (by decide) (fun _ => ?_) (fun _ => ?_)
      · refine x_iload_n dX7_isAs_30 rfl rfl ?_
        refine x_jn 43 (fun (v9 : Unit) => [none, none]) (fun (v9 : Unit) => []) (fun v9 s10 => ?_) (fun j11 hj11 => ?_)
        · refine x_iconst (v := 0) dX7_isAs_43 rfl ?_
          exact x_sub (x_le_n (x_le_n x_le_e)) (hj8 0 _)
        · refine x_if_eq 43 dX7_isAs_31 (by decide) (fun _ => ?_) (fun _ => ?_)
          · exact x_sub (x_le_n (x_le_n x_le_e)) (hj11 () _)
          · refine x_iload_n dX7_isAs_34 rfl rfl ?_
            refine x_iload_n dX7_isAs_35 rfl rfl ?_
            refine x_icmp_ne 43 dX7_isAs_36 (by decide) (fun _ => ?_) (fun _ => ?_)
            · exact x_sub (x_le_n (x_le_n x_le_e)) (hj11 () _)
            · refine x_iconst (v := 1) dX7_isAs_39 rfl ?_
              refine x_goto 44 dX7_isAs_40 (by decide) ?_
              exact x_sub (x_le_n (x_le_n x_le_e)) (hj8 1 _)
      · refine x_iload_n dX7_isAs_19 rfl rfl ?_
        refine x_bipush (v := 48) dX7_isAs_20 rfl ?_
        refine x_bipush (v := 57) dX7_isAs_22 rfl ?_
        refine x_callS3i dX7_isAs_24 lc_RX7_47 (c_X7_within _ _ _ _) rfl rfl (fun r12 s13 => ?_)
        refine x_goto 44 dX7_isAs_27 (by decide) ?_
        exact x_sub (x_le_n (x_le_n x_le_e)) (hj8 r12 _)
  · refine x_iload_n dX7_isAs_5 rfl rfl ?_
    refine x_bipush (v := 97) dX7_isAs_6 rfl ?_
    refine x_bipush (v := 102) dX7_isAs_8 rfl ?_
    refine x_callS3i dX7_isAs_10 lc_RX7_47 (c_X7_within _ _ _ _) rfl rfl (fun r14 s15 => ?_)
    exact x_zret dX7_isAs_13 rfl

theorem t_X7_likeSaying_2 (w1 : Int32) (k : Int32 → xSt → Option (Int32 × xSt)) (hk : ∀ (w2 : Int32) (σ : xSt), XP κi false m_X7_likeSaying 2 shM 33 [none, none, some (.int w2)] [] σ (k w2 σ)) : ∀ (n : Nat) (w2 : Int32) (σ : xSt), XP κi false m_X7_likeSaying 2 shM 2 [some (.ref 0), some (.int w1), some (.int w2)] [] σ (f_X7_likeSaying_2 w1 k n w2 σ) := by
  intro n
  induction n with
  | zero => intro w2 σ; exact x_none
  | succ n ih =>
    intro w2 σ
    rw [f_X7_likeSaying_2]
    refine x_iload_n dX7_likeSaying_2 rfl rfl ?_
    refine x_aload_n dX7_likeSaying_3 rfl rfl ?_
    refine x_getI dX7_likeSaying_4 lk_RX7_51 rfl rfl ?_
    refine x_icmp_ge 33 dX7_likeSaying_7 (by decide) (fun _ => ?_) (fun _ => ?_)
    · exact x_sub (x_le_n (x_le_n (x_le_s rfl x_le_e))) (hk _ _)
    · refine x_iload_n dX7_likeSaying_10 rfl rfl ?_
      refine x_iload_n dX7_likeSaying_11 rfl rfl ?_
      refine x_callS2i dX7_likeSaying_12 lc_RX7_70 (c_X7_sayingAt _ _ _) rfl rfl (fun r1 s2 => ?_)
      refine x_aload_n dX7_likeSaying_15 rfl rfl ?_
      refine x_getR dX7_likeSaying_16 lk_RX7_34 rfl rfl ?_
      refine x_iload_n dX7_likeSaying_19 rfl rfl ?_
      refine x_iald dX7_likeSaying_20 rfl ?_
      refine x_callS2i dX7_likeSaying_21 lc_RX7_73 (c_X7_isAs _ _ _) rfl rfl (fun r3 s4 => ?_)
      refine x_if_eq 33 dX7_likeSaying_24 (by decide) (fun _ => ?_) (fun _ => ?_)
      · exact x_sub (x_le_n (x_le_n (x_le_s rfl x_le_e))) (hk _ _)
      · refine x_iinc dX7_likeSaying_27 rfl rfl rfl rfl ?_
        refine x_goto 2 dX7_likeSaying_30 (by decide) ?_
        exact x_sub (x_le_s rfl (x_le_s rfl (x_le_s rfl x_le_e))) (ih _ _)

theorem c_X7_likeSaying (a1 : Int32) (σ : xSt) : CON κi yX7_likeSaying m_X7_likeSaying false 2 shM [.ref 0, .int a1] σ (f_X7_likeSaying a1 σ) := by
  refine x_con (L := [some (.ref 0), some (.int a1), none]) (by decide) rfl rfl rfl ?_
  unfold f_X7_likeSaying
  refine x_iconst (v := 0) dX7_likeSaying_0 rfl ?_
  refine x_istore_n dX7_likeSaying_1 rfl rfl rfl ?_
  refine x_sub (x_le_s rfl (x_le_s rfl (x_le_s rfl x_le_e))) (t_X7_likeSaying_2 _ _ (fun e5 s6 => ?_) FU _ _)
  refine x_iload_n dX7_likeSaying_33 rfl rfl ?_
  exact x_iret dX7_likeSaying_34 rfl

theorem t_X7_readSaying_4 (k : Int32 → xSt → Option (Int32 × xSt)) (hk : ∀ (w1 : Int32) (σ : xSt), XP κi false m_X7_readSaying 3 shM 33 [none, some (.int w1), none, none] [] σ (k w1 σ)) : ∀ (n : Nat) (w1 : Int32) (w2 : Int32) (σ : xSt), XP κi false m_X7_readSaying 3 shM 4 [some (.ref 0), some (.int w1), some (.int w2), none] [] σ (f_X7_readSaying_4 k n w1 w2 σ) := by
  intro n
  induction n with
  | zero => intro w1 w2 σ; exact x_none
  | succ n ih =>
    intro w1 w2 σ
    rw [f_X7_readSaying_4]
    refine x_iload_n dX7_readSaying_4 rfl rfl ?_
    refine x_bipush (v := 6) dX7_readSaying_5 rfl ?_
    refine x_icmp_ge 33 dX7_readSaying_7 (by decide) (fun _ => ?_) (fun _ => ?_)
    · exact x_sub (x_le_n (x_le_s rfl (x_le_n (x_le_n x_le_e)))) (hk _ _)
    · refine x_aload_n dX7_readSaying_10 rfl rfl ?_
      refine x_iload_n dX7_readSaying_11 rfl rfl ?_
      refine x_callV1i dX7_readSaying_12 lc_RX7_76 (c_X7_likeSaying _ _) rfl rfl rfl rfl rfl (fun r1 s2 => ?_)
      refine x_istore_n dX7_readSaying_15 rfl rfl rfl ?_
      refine x_iload_n dX7_readSaying_16 rfl rfl ?_
      refine x_iload_n dX7_readSaying_17 rfl rfl ?_
      refine x_jn 26 (fun (v3 : Int32) => [some (.ref 0), none, some (.int w2), none]) (fun (v3 : Int32) => [.int v3]) (fun v3 s4 => ?_) (fun j5 hj5 => ?_)
      · refine x_istore_n dX7_readSaying_26 rfl rfl rfl ?_
        refine x_iinc dX7_readSaying_27 rfl rfl rfl rfl ?_
        refine x_goto 4 dX7_readSaying_30 (by decide) ?_
        exact x_sub (x_le_s rfl (x_le_s rfl (x_le_s rfl (x_le_n x_le_e)))) (ih _ _ _)
      · refine x_icmp_le 25 dX7_readSaying_18 (by decide) (fun _ => ?_) (fun _ => ?_)
        · refine x_iload_n dX7_readSaying_25 rfl rfl ?_
          exact x_sub (x_le_s rfl (x_le_n (x_le_s rfl (x_le_n x_le_e)))) (hj5 w1 _)
        · refine x_iload_n dX7_readSaying_21 rfl rfl ?_
          refine x_goto 26 dX7_readSaying_22 (by decide) ?_
          exact x_sub (x_le_s rfl (x_le_n (x_le_s rfl (x_le_n x_le_e)))) (hj5 r1 _)

theorem c_X7_readSaying (σ : xSt) : CON κi yX7_readSaying m_X7_readSaying false 3 shM [.ref 0] σ (f_X7_readSaying σ) := by
  refine x_con (L := [some (.ref 0), none, none, none]) (by decide) rfl rfl rfl ?_
  unfold f_X7_readSaying
  refine x_iconst (v := 0) dX7_readSaying_0 rfl ?_
  refine x_istore_n dX7_readSaying_1 rfl rfl rfl ?_
  refine x_iconst (v := 0) dX7_readSaying_2 rfl ?_
  refine x_istore_n dX7_readSaying_3 rfl rfl rfl ?_
  refine x_sub (x_le_s rfl (x_le_s rfl (x_le_s rfl (x_le_n x_le_e)))) (t_X7_readSaying_4 _ (fun e6 s7 => ?_) FU _ _ _)
  refine x_iload_n dX7_readSaying_33 rfl rfl ?_
  exact x_iret dX7_readSaying_34 rfl

theorem t_X7_sayingNow_2 (k : xSt → Option (Int32 × xSt)) (hk : ∀ (σ : xSt), XP κi false m_X7_sayingNow 3 shM 39 [none, none] [] σ (k  σ)) : ∀ (n : Nat) (w1 : Int32) (σ : xSt), XP κi false m_X7_sayingNow 3 shM 2 [some (.ref 0), some (.int w1)] [] σ (f_X7_sayingNow_2 k n w1 σ) := by
  intro n
  induction n with
  | zero => intro w1 σ; exact x_none
  | succ n ih =>
    intro w1 σ
    rw [f_X7_sayingNow_2]
    refine x_iload_n dX7_sayingNow_2 rfl rfl ?_
    refine x_bipush (v := 6) dX7_sayingNow_3 rfl ?_
    refine x_icmp_ge 39 dX7_sayingNow_5 (by decide) (fun _ => ?_) (fun _ => ?_)
    · exact x_sub (x_le_n (x_le_n x_le_e)) (hk  _)
    · refine x_aload_n dX7_sayingNow_8 rfl rfl ?_
      refine x_iload_n dX7_sayingNow_9 rfl rfl ?_
      refine x_callV1i dX7_sayingNow_10 lc_RX7_76 (c_X7_likeSaying _ _) rfl rfl rfl rfl rfl (fun r1 s2 => ?_)
      refine x_aload_n dX7_sayingNow_13 rfl rfl ?_
      refine x_getI dX7_sayingNow_14 lk_RX7_51 rfl rfl ?_
      refine x_jn 33 (fun (v5 : Unit) => [some (.ref 0), some (.int w1)]) (fun (v5 : Unit) => []) (fun v5 s6 => ?_) (fun j7 hj7 => ?_)
      · refine x_iinc dX7_sayingNow_33 rfl rfl rfl rfl ?_
        refine x_goto 2 dX7_sayingNow_36 (by decide) ?_
        exact x_sub (x_le_s rfl (x_le_s rfl x_le_e)) (ih _ _)
      · refine x_icmp_ne 33 dX7_sayingNow_17 (by decide) (fun _ => ?_) (fun _ => ?_)
        · exact x_sub (x_le_s rfl (x_le_s rfl x_le_e)) (hj7 () _)
        · refine x_iload_n dX7_sayingNow_20 rfl rfl ?_
          refine x_aload_n dX7_sayingNow_21 rfl rfl ?_
          refine x_getI dX7_sayingNow_22 lk_RX7_51 rfl rfl ?_
          refine x_callS2i dX7_sayingNow_25 lc_RX7_70 (c_X7_sayingAt _ _ _) rfl rfl (fun r8 s9 => ?_)
          refine x_if_ne 33 dX7_sayingNow_28 (by decide) (fun _ => ?_) (fun _ => ?_)
          · exact x_sub (x_le_s rfl (x_le_s rfl x_le_e)) (hj7 () _)
          · refine x_iload_n dX7_sayingNow_31 rfl rfl ?_
            exact x_iret dX7_sayingNow_32 rfl

theorem c_X7_sayingNow (σ : xSt) : CON κi yX7_sayingNow m_X7_sayingNow false 3 shM [.ref 0] σ (f_X7_sayingNow σ) := by
  refine x_con (L := [some (.ref 0), none]) (by decide) rfl rfl rfl ?_
  unfold f_X7_sayingNow
  refine x_iconst (v := 0) dX7_sayingNow_0 rfl ?_
  refine x_istore_n dX7_sayingNow_1 rfl rfl rfl ?_
  refine x_sub (x_le_s rfl (x_le_s rfl x_le_e)) (t_X7_sayingNow_2 _ (fun  s10 => ?_) FU _ _)
  refine x_iconst (v := -1) dX7_sayingNow_39 rfl ?_
  exact x_iret dX7_sayingNow_40 rfl

theorem c_X7_fault (a1 : Int32) (σ : xSt) : CON κi yX7_fault m_X7_fault false 4 shM [.ref 0, .int a1] σ (f_X7_fault a1 σ) := by
  refine x_con (L := [some (.ref 0), some (.int a1)]) (by decide) rfl rfl rfl ?_
  unfold f_X7_fault
  refine x_iload_n dX7_fault_0 rfl rfl ?_
  refine x_iconst (v := 0) dX7_fault_1 rfl ?_
  refine x_iconst (v := 1) dX7_fault_2 rfl ?_
  refine x_callS3i dX7_fault_3 lc_RX7_47 (c_X7_within _ _ _ _) rfl rfl (fun r1 s2 => ?_)
  refine x_jn 29 (fun (v7 : Int32) => [none, none]) (fun (v7 : Int32) => [.int v7]) (fun v7 s8 => ?_) (fun j9 hj9 => ?_)
  · exact x_iret dX7_fault_29 rfl
  · refine x_if_ne 14 dX7_fault_6 (by decide) (fun _ => ?_) (fun _ => ?_)
    · refine x_iload_n dX7_fault_14 rfl rfl ?_
      refine x_if_ne 25 dX7_fault_15 (by decide) (fun _ => ?_) (fun _ => ?_)
      · refine x_aload_n dX7_fault_25 rfl rfl ?_
        refine x_callV0i dX7_fault_26 lc_RX7_84 (c_X7_readSaying _) rfl rfl rfl rfl rfl (fun r10 s11 => ?_)
        exact x_sub (x_le_n (x_le_n x_le_e)) (hj9 r10 _)
      · refine x_aload_n dX7_fault_18 rfl rfl ?_
        refine x_callV0i dX7_fault_19 lc_RX7_80 (c_X7_readChannel _) rfl rfl rfl rfl rfl (fun r12 s13 => ?_)
        refine x_goto 29 dX7_fault_22 (by decide) ?_
        exact x_sub (x_le_n (x_le_n x_le_e)) (hj9 r12 _)
    · refine x_bipush (v := -102) dX7_fault_9 rfl ?_
      refine x_goto 29 dX7_fault_11 (by decide) ?_
      exact x_sub (x_le_n (x_le_n x_le_e)) (hj9 (-102) _)

theorem c_X7_netBy (a0 : Int32) (σ : xSt) : CON κi yX7_netBy m_X7_netBy false 0 shM [.int a0] σ (f_X7_netBy a0 σ) := by
  refine x_con (L := [some (.int a0)]) (by decide) rfl rfl rfl ?_
  unfold f_X7_netBy
  refine x_iload_n dX7_netBy_0 rfl rfl ?_
  refine x_bipush (v := 46) dX7_netBy_1 rfl ?_
  refine x_jn 14 (fun (v1 : Int32) => [none]) (fun (v1 : Int32) => [.int v1]) (fun v1 s2 => ?_) (fun j3 hj3 => ?_)
  · exact x_iret dX7_netBy_14 rfl
  · refine x_icmp_ne 10 dX7_netBy_3 (by decide) (fun _ => ?_) (fun _ => ?_)
    · refine x_iload_n dX7_netBy_10 rfl rfl ?_
      refine x_bipush (v := 97) dX7_netBy_11 rfl ?_
      refine x_isub dX7_netBy_13 ?_
      exact x_sub (x_le_n x_le_e) (hj3 (a0 - 97) _)
    · refine x_iconst (v := -1) dX7_netBy_6 rfl ?_
      refine x_goto 14 dX7_netBy_7 (by decide) ?_
      exact x_sub (x_le_n x_le_e) (hj3 (-1) _)

theorem c_X7_top (a1 : Int32) (σ : xSt) : CON κi yX7_top m_X7_top false 0 shM [.ref 0, .int a1] σ (f_X7_top a1 σ) := by
  refine x_con (L := [some (.ref 0), some (.int a1)]) (by decide) rfl rfl rfl ?_
  unfold f_X7_top
  refine x_aload_n dX7_top_0 rfl rfl ?_
  refine x_getR dX7_top_1 lk_RX7_7 rfl rfl ?_
  refine x_iconst (v := 2) dX7_top_4 rfl ?_
  refine x_iload_n dX7_top_5 rfl rfl ?_
  refine x_imul dX7_top_6 ?_
  refine x_iald dX7_top_7 rfl ?_
  exact x_iret dX7_top_8 rfl

theorem c_X7_bottom (a1 : Int32) (σ : xSt) : CON κi yX7_bottom m_X7_bottom false 0 shM [.ref 0, .int a1] σ (f_X7_bottom a1 σ) := by
  refine x_con (L := [some (.ref 0), some (.int a1)]) (by decide) rfl rfl rfl ?_
  unfold f_X7_bottom
  refine x_aload_n dX7_bottom_0 rfl rfl ?_
  refine x_getR dX7_bottom_1 lk_RX7_7 rfl rfl ?_
  refine x_iconst (v := 2) dX7_bottom_4 rfl ?_
  refine x_iload_n dX7_bottom_5 rfl rfl ?_
  refine x_imul dX7_bottom_6 ?_
  refine x_iconst (v := 1) dX7_bottom_7 rfl ?_
  refine x_iadd dX7_bottom_8 ?_
  refine x_iald dX7_bottom_9 rfl ?_
  exact x_iret dX7_bottom_10 rfl

theorem c_X7_hasPin (a1 : Int32) (a2 : Int32) (σ : xSt) : CON κi yX7_hasPin m_X7_hasPin false 1 shM [.ref 0, .int a1, .int a2] σ (f_X7_hasPin a1 a2 σ) := by
  refine x_con (L := [some (.ref 0), some (.int a1), some (.int a2)]) (by decide) rfl rfl rfl ?_
  unfold f_X7_hasPin
  refine x_aload_n dX7_hasPin_0 rfl rfl ?_
  refine x_iload_n dX7_hasPin_1 rfl rfl ?_
  refine x_callV1i dX7_hasPin_2 lc_RX7_124 (c_X7_top _ _) rfl rfl rfl rfl rfl (fun r1 s2 => ?_)
  refine x_iload_n dX7_hasPin_5 rfl rfl ?_
  refine x_jn 23 (fun (v10 : Int32) => [none, none, none]) (fun (v10 : Int32) => [.int v10]) (fun v10 s11 => ?_) (fun j12 hj12 => ?_)
  · exact x_zret dX7_hasPin_23 rfl
  · refine x_jn 18 (fun (v15 : Unit) => [none, none, none]) (fun (v15 : Unit) => []) (fun v15 s16 => ?_) (fun j17 hj17 => ?_)
    · refine x_iconst (v := 1) dX7_hasPin_18 rfl ?_
      refine x_goto 23 dX7_hasPin_19 (by decide) ?_
      exact x_sub (x_le_n (x_le_n (x_le_n x_le_e))) (hj12 1 _)
    · refine x_icmp_eq 18 dX7_hasPin_6 (by decide) (fun _ => ?_) (fun _ => ?_)
      · exact x_sub (x_le_n (x_le_n (x_le_n x_le_e))) (hj17 () _)
      · refine x_aload_n dX7_hasPin_9 rfl rfl ?_
        refine x_iload_n dX7_hasPin_10 rfl rfl ?_
        refine x_callV1i dX7_hasPin_11 lc_RX7_127 (c_X7_bottom _ _) rfl rfl rfl rfl rfl (fun r18 s19 => ?_)
        refine x_iload_n dX7_hasPin_14 rfl rfl ?_
        refine x_icmp_ne 22 dX7_hasPin_15 (by decide) (fun _ => ?_) (fun _ => ?_)
        · refine x_iconst (v := 0) dX7_hasPin_22 rfl ?_
          exact x_sub (x_le_n (x_le_n (x_le_n x_le_e))) (hj12 0 _)
        · exact x_sub (x_le_n (x_le_n (x_le_n x_le_e))) (hj17 () _)

theorem c_X7_addSegment (a1 : Int32) (a2 : Int32) (a3 : Int32) (σ : xSt) : CON κv yX7_addSegment m_X7_addSegment false 0 shM [.ref 0, .int a1, .int a2, .int a3] σ (f_X7_addSegment a1 a2 a3 σ) := by
  refine x_con (L := [some (.ref 0), some (.int a1), some (.int a2), some (.int a3)]) (by decide) rfl rfl rfl ?_
  unfold f_X7_addSegment
  refine x_aload_n dX7_addSegment_0 rfl rfl ?_
  refine x_getR dX7_addSegment_1 lk_RX7_13 rfl rfl ?_
  refine x_aload_n dX7_addSegment_4 rfl rfl ?_
  refine x_getI dX7_addSegment_5 lk_RX7_130 rfl rfl ?_
  refine x_iload_n dX7_addSegment_8 rfl rfl ?_
  refine x_iastB dX7_addSegment_9 rfl (fun s1 => ?_)
  refine x_aload_n dX7_addSegment_10 rfl rfl ?_
  refine x_getR dX7_addSegment_11 lk_RX7_16 rfl rfl ?_
  refine x_aload_n dX7_addSegment_14 rfl rfl ?_
  refine x_getI dX7_addSegment_15 lk_RX7_130 rfl rfl ?_
  refine x_iload_n dX7_addSegment_18 rfl rfl ?_
  refine x_iastB dX7_addSegment_19 rfl (fun s2 => ?_)
  refine x_aload_n dX7_addSegment_20 rfl rfl ?_
  refine x_getR dX7_addSegment_21 lk_RX7_19 rfl rfl ?_
  refine x_aload_n dX7_addSegment_24 rfl rfl ?_
  refine x_getI dX7_addSegment_25 lk_RX7_130 rfl rfl ?_
  refine x_iload_n dX7_addSegment_28 rfl rfl ?_
  refine x_iastB dX7_addSegment_29 rfl (fun s3 => ?_)
  refine x_aload_n dX7_addSegment_30 rfl rfl ?_
  refine x_dup dX7_addSegment_31 rfl ?_
  refine x_getI dX7_addSegment_32 lk_RX7_130 rfl rfl ?_
  refine x_iconst (v := 1) dX7_addSegment_35 rfl ?_
  refine x_iadd dX7_addSegment_36 ?_
  refine x_putIB dX7_addSegment_37 lp_RX7_130 rfl rfl (fun s4 => ?_)
  exact x_vret dX7_addSegment_40 rfl

theorem t_X7_layNet_8 (w1 : Int32) (w2 : Int32) (k : Int32 → Int32 → xSt → Option (Unit × xSt)) (hk : ∀ (w3 : Int32) (w4 : Int32) (σ : xSt), XP κv false m_X7_layNet 2 shM 68 [some (.ref 0), some (.int w1), some (.int w2), some (.int w3), some (.int w4), none] [] σ (k w3 w4 σ)) : ∀ (n : Nat) (w3 : Int32) (w4 : Int32) (w5 : Int32) (σ : xSt), XP κv false m_X7_layNet 2 shM 8 [some (.ref 0), some (.int w1), some (.int w2), some (.int w3), some (.int w4), some (.int w5)] [] σ (f_X7_layNet_8 w1 w2 k n w3 w4 w5 σ) := by
  intro n
  induction n with
  | zero => intro w3 w4 w5 σ; exact x_none
  | succ n ih =>
    intro w3 w4 w5 σ
    rw [f_X7_layNet_8]
    refine x_iload dX7_layNet_8 rfl ?_
    refine x_aload_n dX7_layNet_10 rfl rfl ?_
    refine x_getI dX7_layNet_11 lk_RX7_87 rfl rfl ?_
    refine x_icmp_ge 68 dX7_layNet_14 (by decide) (fun _ => ?_) (fun _ => ?_)
    · exact x_sub (x_le_s rfl (x_le_s rfl (x_le_s rfl (x_le_s rfl (x_le_s rfl (x_le_n x_le_e)))))) (hk _ _ _)
    · refine x_aload_n dX7_layNet_17 rfl rfl ?_
      refine x_iload_n dX7_layNet_18 rfl rfl ?_
      refine x_iload dX7_layNet_19 rfl ?_
      refine x_callV2i dX7_layNet_21 lc_RX7_133 (c_X7_hasPin _ _ _) rfl rfl rfl rfl rfl (fun r1 s2 => ?_)
      refine x_jn 62 (fun (v13 : Int32 × Int32) => [some (.ref 0), some (.int w1), some (.int w2), some (.int v13.1), some (.int v13.2), some (.int w5)]) (fun (v13 : Int32 × Int32) => []) (fun v13 s14 => ?_) (fun j15 hj15 => ?_)
      · refine x_iinc dX7_layNet_62 rfl rfl rfl rfl ?_
        refine x_goto 8 dX7_layNet_65 (by decide) ?_
        exact x_sub (x_le_s rfl (x_le_s rfl (x_le_s rfl (x_le_s rfl (x_le_s rfl (x_le_s rfl x_le_e)))))) (ih _ _ _ _)
      · refine x_if_eq 62 dX7_layNet_24 (by decide) (fun _ => ?_) (fun _ => ?_)
        · exact x_sub (x_le_s rfl (x_le_s rfl (x_le_s rfl (x_le_s rfl (x_le_s rfl (x_le_s rfl x_le_e)))))) (hj15 (w3, w4) _)
        · refine x_iload_n dX7_layNet_27 rfl rfl ?_
          refine x_jn 46 (fun (v18 : Unit) => [some (.ref 0), some (.int w1), some (.int w2), some (.int w3), none, some (.int w5)]) (fun (v18 : Unit) => []) (fun v18 s19 => ?_) (fun j20 hj20 => ?_)
          · refine x_iload_n dX7_layNet_46 rfl rfl ?_
            refine x_iconst (v := -1) dX7_layNet_47 rfl ?_
            refine x_jn 57 (fun (v21 : Int32) => [some (.ref 0), some (.int w1), some (.int w2), none, none, some (.int w5)]) (fun (v21 : Int32) => [.int v21]) (fun v21 s22 => ?_) (fun j23 hj23 => ?_)
            · refine x_istore_n dX7_layNet_57 rfl rfl rfl ?_
              refine x_iload dX7_layNet_58 rfl ?_
              refine x_istore dX7_layNet_60 rfl rfl ?_
              exact x_sub (x_le_s rfl (x_le_s rfl (x_le_s rfl (x_le_s rfl (x_le_s rfl (x_le_s rfl x_le_e)))))) (hj15 (v21, w5) _)
            · refine x_icmp_ne 56 dX7_layNet_48 (by decide) (fun _ => ?_) (fun _ => ?_)
              · refine x_iload_n dX7_layNet_56 rfl rfl ?_
                exact x_sub (x_le_s rfl (x_le_s rfl (x_le_s rfl (x_le_n (x_le_n (x_le_s rfl x_le_e)))))) (hj23 w3 _)
              · refine x_iload dX7_layNet_51 rfl ?_
                refine x_goto 57 dX7_layNet_53 (by decide) ?_
                exact x_sub (x_le_s rfl (x_le_s rfl (x_le_s rfl (x_le_n (x_le_n (x_le_s rfl x_le_e)))))) (hj23 w5 _)
          · refine x_if_eq 46 dX7_layNet_28 (by decide) (fun _ => ?_) (fun _ => ?_)
            · exact x_sub (x_le_s rfl (x_le_s rfl (x_le_s rfl (x_le_s rfl (x_le_n (x_le_s rfl x_le_e)))))) (hj20 () _)
            · refine x_iload dX7_layNet_31 rfl ?_
              refine x_iconst (v := -1) dX7_layNet_33 rfl ?_
              refine x_icmp_eq 46 dX7_layNet_34 (by decide) (fun _ => ?_) (fun _ => ?_)
              · exact x_sub (x_le_s rfl (x_le_s rfl (x_le_s rfl (x_le_s rfl (x_le_n (x_le_s rfl x_le_e)))))) (hj20 () _)
              · refine x_aload_n dX7_layNet_37 rfl rfl ?_
                refine x_iload_n dX7_layNet_38 rfl rfl ?_
                refine x_iload dX7_layNet_39 rfl ?_
                refine x_iload dX7_layNet_41 rfl ?_
                refine x_callV3v dX7_layNet_43 lc_RX7_136 (c_X7_addSegment _ _ _ _) rfl rfl rfl rfl rfl (fun r24 s25 => ?_)
                exact x_sub (x_le_s rfl (x_le_s rfl (x_le_s rfl (x_le_s rfl (x_le_n (x_le_s rfl x_le_e)))))) (hj20 () _)

theorem c_X7_layNet (a1 : Int32) (a2 : Int32) (σ : xSt) : CON κv yX7_layNet m_X7_layNet false 2 shM [.ref 0, .int a1, .int a2] σ (f_X7_layNet a1 a2 σ) := by
  refine x_con (L := [some (.ref 0), some (.int a1), some (.int a2), none, none, none]) (by decide) rfl rfl rfl ?_
  unfold f_X7_layNet
  refine x_iconst (v := -1) dX7_layNet_0 rfl ?_
  refine x_istore_n dX7_layNet_1 rfl rfl rfl ?_
  refine x_iconst (v := -1) dX7_layNet_2 rfl ?_
  refine x_istore dX7_layNet_3 rfl rfl ?_
  refine x_iconst (v := 0) dX7_layNet_5 rfl ?_
  refine x_istore dX7_layNet_6 rfl rfl ?_
  refine x_sub (x_le_s rfl (x_le_s rfl (x_le_s rfl (x_le_s rfl (x_le_s rfl (x_le_s rfl x_le_e)))))) (t_X7_layNet_8 _ _ _ (fun e26 e27 s28 => ?_) FU _ _ _ _)
  refine x_iload_n dX7_layNet_68 rfl rfl ?_
  refine x_jn 86 (fun (v31 : Unit) => [none, none, none, none, none, none]) (fun (v31 : Unit) => []) (fun v31 s32 => ?_) (fun j33 hj33 => ?_)
  · exact x_vret dX7_layNet_86 rfl
  · refine x_if_ne 86 dX7_layNet_69 (by decide) (fun _ => ?_) (fun _ => ?_)
    · exact x_sub (x_le_n (x_le_n (x_le_n (x_le_n (x_le_n (x_le_n x_le_e)))))) (hj33 () _)
    · refine x_iload dX7_layNet_72 rfl ?_
      refine x_iload_n dX7_layNet_74 rfl rfl ?_
      refine x_icmp_le 86 dX7_layNet_75 (by decide) (fun _ => ?_) (fun _ => ?_)
      · exact x_sub (x_le_n (x_le_n (x_le_n (x_le_n (x_le_n (x_le_n x_le_e)))))) (hj33 () _)
      · refine x_aload_n dX7_layNet_78 rfl rfl ?_
        refine x_iload_n dX7_layNet_79 rfl rfl ?_
        refine x_iload_n dX7_layNet_80 rfl rfl ?_
        refine x_iload dX7_layNet_81 rfl ?_
        refine x_callV3v dX7_layNet_83 lc_RX7_136 (c_X7_addSegment _ _ _ _) rfl rfl rfl rfl rfl (fun r34 s35 => ?_)
        exact x_sub (x_le_n (x_le_n (x_le_n (x_le_n (x_le_n (x_le_n x_le_e)))))) (hj33 () _)

theorem c_X7_isWithin (a1 : Int32) (a2 : Int32) (σ : xSt) : CON κi yX7_isWithin m_X7_isWithin false 1 shM [.ref 0, .int a1, .int a2] σ (f_X7_isWithin a1 a2 σ) := by
  refine x_con (L := [some (.ref 0), some (.int a1), some (.int a2)]) (by decide) rfl rfl rfl ?_
  unfold f_X7_isWithin
  refine x_iload_n dX7_isWithin_0 rfl rfl ?_
  refine x_aload_n dX7_isWithin_1 rfl rfl ?_
  refine x_getR dX7_isWithin_2 lk_RX7_16 rfl rfl ?_
  refine x_iload_n dX7_isWithin_5 rfl rfl ?_
  refine x_iald dX7_isWithin_6 rfl ?_
  refine x_aload_n dX7_isWithin_7 rfl rfl ?_
  refine x_getR dX7_isWithin_8 lk_RX7_19 rfl rfl ?_
  refine x_iload_n dX7_isWithin_11 rfl rfl ?_
  refine x_iald dX7_isWithin_12 rfl ?_
  refine x_callS3i dX7_isWithin_13 lc_RX7_47 (c_X7_within _ _ _ _) rfl rfl (fun r1 s2 => ?_)
  exact x_zret dX7_isWithin_16 rfl

theorem c_X7_touches (a1 : Int32) (a2 : Int32) (σ : xSt) : CON κi yX7_touches m_X7_touches false 2 shM [.ref 0, .int a1, .int a2] σ (f_X7_touches a1 a2 σ) := by
  refine x_con (L := [some (.ref 0), some (.int a1), some (.int a2)]) (by decide) rfl rfl rfl ?_
  unfold f_X7_touches
  refine x_aload_n dX7_touches_0 rfl rfl ?_
  refine x_iload_n dX7_touches_1 rfl rfl ?_
  refine x_iload_n dX7_touches_2 rfl rfl ?_
  refine x_callV2i dX7_touches_3 lc_RX7_140 (c_X7_isWithin _ _ _) rfl rfl rfl rfl rfl (fun r1 s2 => ?_)
  refine x_jn 28 (fun (v10 : Int32) => [none, none, none]) (fun (v10 : Int32) => [.int v10]) (fun v10 s11 => ?_) (fun j12 hj12 => ?_)
  · exact x_zret dX7_touches_28 rfl
  · refine x_jn 27 (fun (v15 : Unit) => [none, none, none]) (fun (v15 : Unit) => []) (fun v15 s16 => ?_) (fun j17 hj17 => ?_)
    · refine x_iconst (v := 0) dX7_touches_27 rfl ?_
      exact x_sub (x_le_n (x_le_n (x_le_n x_le_e))) (hj12 0 _)
    · refine x_if_eq 27 dX7_touches_6 (by decide) (fun _ => ?_) (fun _ => ?_)
      · exact x_sub (x_le_n (x_le_n (x_le_n x_le_e))) (hj17 () _)
      · refine x_aload_n dX7_touches_9 rfl rfl ?_
        refine x_aload_n dX7_touches_10 rfl rfl ?_
        refine x_getR dX7_touches_11 lk_RX7_13 rfl rfl ?_
        refine x_iload_n dX7_touches_14 rfl rfl ?_
        refine x_iald dX7_touches_15 rfl ?_
        refine x_iload_n dX7_touches_16 rfl rfl ?_
        refine x_callV2i dX7_touches_17 lc_RX7_133 (c_X7_hasPin _ _ _) rfl rfl rfl rfl rfl (fun r18 s19 => ?_)
        refine x_if_eq 27 dX7_touches_20 (by decide) (fun _ => ?_) (fun _ => ?_)
        · exact x_sub (x_le_n (x_le_n (x_le_n x_le_e))) (hj17 () _)
        · refine x_iconst (v := 1) dX7_touches_23 rfl ?_
          refine x_goto 28 dX7_touches_24 (by decide) ?_
          exact x_sub (x_le_n (x_le_n (x_le_n x_le_e))) (hj12 1 _)

theorem t_X7_isAbove_5 (w1 : Int32) (w2 : Int32) (k : Int32 → xSt → Option (Int32 × xSt)) (hk : ∀ (w3 : Int32) (σ : xSt), XP κi false m_X7_isAbove 3 shM 92 [some (.ref 0), some (.int w1), some (.int w2), some (.int w3), none, none] [] σ (k w3 σ)) : ∀ (n : Nat) (w3 : Int32) (w4 : Int32) (σ : xSt), XP κi false m_X7_isAbove 3 shM 5 [some (.ref 0), some (.int w1), some (.int w2), some (.int w3), some (.int w4), none] [] σ (f_X7_isAbove_5 w1 w2 k n w3 w4 σ) := by
  intro n
  induction n with
  | zero => intro w3 w4 σ; exact x_none
  | succ n ih =>
    intro w3 w4 σ
    rw [f_X7_isAbove_5]
    refine x_iload dX7_isAbove_5 rfl ?_
    refine x_aload_n dX7_isAbove_7 rfl rfl ?_
    refine x_getI dX7_isAbove_8 lk_RX7_87 rfl rfl ?_
    refine x_icmp_ge 92 dX7_isAbove_11 (by decide) (fun _ => ?_) (fun _ => ?_)
    · exact x_sub (x_le_s rfl (x_le_s rfl (x_le_s rfl (x_le_s rfl (x_le_n (x_le_n x_le_e)))))) (hk _ _)
    · refine x_aload_n dX7_isAbove_14 rfl rfl ?_
      refine x_iload dX7_isAbove_15 rfl ?_
      refine x_callV1i dX7_isAbove_17 lc_RX7_124 (c_X7_top _ _) rfl rfl rfl rfl rfl (fun r1 s2 => ?_)
      refine x_aload_n dX7_isAbove_20 rfl rfl ?_
      refine x_getR dX7_isAbove_21 lk_RX7_13 rfl rfl ?_
      refine x_iload_n dX7_isAbove_24 rfl rfl ?_
      refine x_iald dX7_isAbove_25 rfl ?_
      refine x_jn 49 (fun (v10 : Int32) => [some (.ref 0), some (.int w1), some (.int w2), some (.int w3), some (.int w4), none]) (fun (v10 : Int32) => [.int v10]) (fun v10 s11 => ?_) (fun j12 hj12 => ?_)
      · refine x_istore dX7_isAbove_49 rfl rfl ?_
        refine x_iload_n dX7_isAbove_51 rfl rfl ?_
        refine x_jn 85 (fun (v38 : Int32) => [some (.ref 0), some (.int w1), some (.int w2), none, some (.int w4), none]) (fun (v38 : Int32) => [.int v38]) (fun v38 s39 => ?_) (fun j40 hj40 => ?_)
        · refine x_istore_n dX7_isAbove_85 rfl rfl rfl ?_
          refine x_iinc dX7_isAbove_86 rfl rfl rfl rfl ?_
          refine x_goto 5 dX7_isAbove_89 (by decide) ?_
          exact x_sub (x_le_s rfl (x_le_s rfl (x_le_s rfl (x_le_s rfl (x_le_s rfl (x_le_n x_le_e)))))) (ih _ _ _)
        · refine x_jn 80 (fun (v52 : Unit) => [some (.ref 0), some (.int w1), some (.int w2), none, some (.int w4), none]) (fun (v52 : Unit) => []) (fun v52 s53 => ?_) (fun j54 hj54 => ?_)
          · refine x_iconst (v := 1) dX7_isAbove_80 rfl ?_
            refine x_goto 85 dX7_isAbove_81 (by decide) ?_
            exact x_sub (x_le_s rfl (x_le_s rfl (x_le_s rfl (x_le_n (x_le_s rfl (x_le_n x_le_e)))))) (hj40 1 _)
          · refine x_if_ne 80 dX7_isAbove_52 (by decide) (fun _ => ?_) (fun _ => ?_)
            · exact x_sub (x_le_s rfl (x_le_s rfl (x_le_s rfl (x_le_n (x_le_s rfl (x_le_n x_le_e)))))) (hj54 () _)
            · refine x_iload dX7_isAbove_55 rfl ?_
              refine x_jn 84 (fun (v59 : Unit) => [some (.ref 0), some (.int w1), some (.int w2), none, some (.int w4), none]) (fun (v59 : Unit) => []) (fun v59 s60 => ?_) (fun j61 hj61 => ?_)
              · refine x_iconst (v := 0) dX7_isAbove_84 rfl ?_
                exact x_sub (x_le_s rfl (x_le_s rfl (x_le_s rfl (x_le_n (x_le_s rfl (x_le_n x_le_e)))))) (hj40 0 _)
              · refine x_if_eq 84 dX7_isAbove_57 (by decide) (fun _ => ?_) (fun _ => ?_)
                · exact x_sub (x_le_s rfl (x_le_s rfl (x_le_s rfl (x_le_n (x_le_s rfl (x_le_n x_le_e)))))) (hj61 () _)
                · refine x_aload_n dX7_isAbove_60 rfl rfl ?_
                  refine x_iload_n dX7_isAbove_61 rfl rfl ?_
                  refine x_iload dX7_isAbove_62 rfl ?_
                  refine x_callV2i dX7_isAbove_64 lc_RX7_143 (c_X7_touches _ _ _) rfl rfl rfl rfl rfl (fun r62 s63 => ?_)
                  refine x_if_eq 84 dX7_isAbove_67 (by decide) (fun _ => ?_) (fun _ => ?_)
                  · exact x_sub (x_le_s rfl (x_le_s rfl (x_le_s rfl (x_le_n (x_le_s rfl (x_le_n x_le_e)))))) (hj61 () _)
                  · refine x_aload_n dX7_isAbove_70 rfl rfl ?_
                    refine x_iload_n dX7_isAbove_71 rfl rfl ?_
                    refine x_iload dX7_isAbove_72 rfl ?_
                    refine x_callV2i dX7_isAbove_74 lc_RX7_143 (c_X7_touches _ _ _) rfl rfl rfl rfl rfl (fun r64 s65 => ?_)
                    refine x_if_eq 84 dX7_isAbove_77 (by decide) (fun _ => ?_) (fun _ => ?_)
                    · exact x_sub (x_le_s rfl (x_le_s rfl (x_le_s rfl (x_le_n (x_le_s rfl (x_le_n x_le_e)))))) (hj61 () _)
                    · exact x_sub (x_le_s rfl (x_le_s rfl (x_le_s rfl (x_le_n (x_le_s rfl (x_le_n x_le_e)))))) (hj54 () _)
      · refine x_jn 48 (fun (v68 : Unit) => [some (.ref 0), some (.int w1), some (.int w2), some (.int w3), some (.int w4), none]) (fun (v68 : Unit) => []) (fun v68 s69 => ?_) (fun j70 hj70 => ?_)
        · refine x_iconst (v := 0) dX7_isAbove_48 rfl ?_
          exact x_sub (x_le_s rfl (x_le_s rfl (x_le_s rfl (x_le_s rfl (x_le_s rfl (x_le_n x_le_e)))))) (hj12 0 _)
        · refine x_icmp_ne 48 dX7_isAbove_26 (by decide) (fun _ => ?_) (fun _ => ?_)
          · exact x_sub (x_le_s rfl (x_le_s rfl (x_le_s rfl (x_le_s rfl (x_le_s rfl (x_le_n x_le_e)))))) (hj70 () _)
          · refine x_aload_n dX7_isAbove_29 rfl rfl ?_
            refine x_iload dX7_isAbove_30 rfl ?_
            refine x_callV1i dX7_isAbove_32 lc_RX7_127 (c_X7_bottom _ _) rfl rfl rfl rfl rfl (fun r71 s72 => ?_)
            refine x_aload_n dX7_isAbove_35 rfl rfl ?_
            refine x_getR dX7_isAbove_36 lk_RX7_13 rfl rfl ?_
            refine x_iload_n dX7_isAbove_39 rfl rfl ?_
            refine x_iald dX7_isAbove_40 rfl ?_
            refine x_icmp_ne 48 dX7_isAbove_41 (by decide) (fun _ => ?_) (fun _ => ?_)
            · exact x_sub (x_le_s rfl (x_le_s rfl (x_le_s rfl (x_le_s rfl (x_le_s rfl (x_le_n x_le_e)))))) (hj70 () _)
            · refine x_iconst (v := 1) dX7_isAbove_44 rfl ?_
              refine x_goto 49 dX7_isAbove_45 (by decide) ?_
              exact x_sub (x_le_s rfl (x_le_s rfl (x_le_s rfl (x_le_s rfl (x_le_s rfl (x_le_n x_le_e)))))) (hj12 1 _)

theorem c_X7_isAbove (a1 : Int32) (a2 : Int32) (σ : xSt) : CON κi yX7_isAbove m_X7_isAbove false 3 shM [.ref 0, .int a1, .int a2] σ (f_X7_isAbove a1 a2 σ) := by
  refine x_con (L := [some (.ref 0), some (.int a1), some (.int a2), none, none, none]) (by decide) rfl rfl rfl ?_
  unfold f_X7_isAbove
  refine x_iconst (v := 0) dX7_isAbove_0 rfl ?_
  refine x_istore_n dX7_isAbove_1 rfl rfl rfl ?_
  refine x_iconst (v := 0) dX7_isAbove_2 rfl ?_
  refine x_istore dX7_isAbove_3 rfl rfl ?_
  refine x_sub (x_le_s rfl (x_le_s rfl (x_le_s rfl (x_le_s rfl (x_le_s rfl (x_le_n x_le_e)))))) (t_X7_isAbove_5 _ _ _ (fun e73 s74 => ?_) FU _ _ _)
  refine x_iload_n dX7_isAbove_92 rfl rfl ?_
  refine x_jn 116 (fun (v78 : Int32) => [none, none, none, none, none, none]) (fun (v78 : Int32) => [.int v78]) (fun v78 s79 => ?_) (fun j80 hj80 => ?_)
  · exact x_zret dX7_isAbove_116 rfl
  · refine x_jn 115 (fun (v81 : Unit) => [none, none, none, none, none, none]) (fun (v81 : Unit) => []) (fun v81 s82 => ?_) (fun j83 hj83 => ?_)
    · refine x_iconst (v := 0) dX7_isAbove_115 rfl ?_
      exact x_sub (x_le_n (x_le_n (x_le_n (x_le_n (x_le_n (x_le_n x_le_e)))))) (hj80 0 _)
    · refine x_if_eq 115 dX7_isAbove_93 (by decide) (fun _ => ?_) (fun _ => ?_)
      · exact x_sub (x_le_n (x_le_n (x_le_n (x_le_n (x_le_n (x_le_n x_le_e)))))) (hj83 () _)
      · refine x_aload_n dX7_isAbove_96 rfl rfl ?_
        refine x_getR dX7_isAbove_97 lk_RX7_13 rfl rfl ?_
        refine x_iload_n dX7_isAbove_100 rfl rfl ?_
        refine x_iald dX7_isAbove_101 rfl ?_
        refine x_aload_n dX7_isAbove_102 rfl rfl ?_
        refine x_getR dX7_isAbove_103 lk_RX7_13 rfl rfl ?_
        refine x_iload_n dX7_isAbove_106 rfl rfl ?_
        refine x_iald dX7_isAbove_107 rfl ?_
        refine x_icmp_eq 115 dX7_isAbove_108 (by decide) (fun _ => ?_) (fun _ => ?_)
        · exact x_sub (x_le_n (x_le_n (x_le_n (x_le_n (x_le_n (x_le_n x_le_e)))))) (hj83 () _)
        · refine x_iconst (v := 1) dX7_isAbove_111 rfl ?_
          refine x_goto 116 dX7_isAbove_112 (by decide) ?_
          exact x_sub (x_le_n (x_le_n (x_le_n (x_le_n (x_le_n (x_le_n x_le_e)))))) (hj80 1 _)

theorem t_X7_laySegments_7 (w1 : Int32) (k : xSt → Option (Unit × xSt)) (hk : ∀ (σ : xSt), XP κv false m_X7_laySegments 4 shM 29 [some (.ref 0), none, none, none] [] σ (k  σ)) : ∀ (n : Nat) (w2 : Int32) (σ : xSt), XP κv false m_X7_laySegments 4 shM 7 [some (.ref 0), some (.int w1), some (.int w2), none] [] σ (f_X7_laySegments_7 w1 k n w2 σ) := by
  intro n
  induction n with
  | zero => intro w2 σ; exact x_none
  | succ n ih =>
    intro w2 σ
    rw [f_X7_laySegments_7]
    refine x_iload_n dX7_laySegments_7 rfl rfl ?_
    refine x_bipush (v := 6) dX7_laySegments_8 rfl ?_
    refine x_icmp_ge 29 dX7_laySegments_10 (by decide) (fun _ => ?_) (fun _ => ?_)
    · exact x_sub (x_le_s rfl (x_le_n (x_le_n (x_le_n x_le_e)))) (hk  _)
    · refine x_aload_n dX7_laySegments_13 rfl rfl ?_
      refine x_iload_n dX7_laySegments_14 rfl rfl ?_
      refine x_iload_n dX7_laySegments_15 rfl rfl ?_
      refine x_iload_n dX7_laySegments_16 rfl rfl ?_
      refine x_callS2i dX7_laySegments_17 lc_RX7_43 (c_X7_isBit _ _ _) rfl rfl (fun r2 s3 => ?_)
      refine x_callV2v dX7_laySegments_20 lc_RX7_146 (c_X7_layNet _ _ _) rfl rfl rfl rfl rfl (fun r4 s5 => ?_)
      refine x_iinc dX7_laySegments_23 rfl rfl rfl rfl ?_
      refine x_goto 7 dX7_laySegments_26 (by decide) ?_
      exact x_sub (x_le_s rfl (x_le_s rfl (x_le_s rfl (x_le_n x_le_e)))) (ih _ _)

theorem t_X7_laySegments_48 (w2 : Int32) (k : xSt → Option (Unit × xSt)) (hk : ∀ (σ : xSt), XP κv false m_X7_laySegments 4 shM 87 [some (.ref 0), none, some (.int w2), none] [] σ (k  σ)) : ∀ (n : Nat) (w3 : Int32) (σ : xSt), XP κv false m_X7_laySegments 4 shM 48 [some (.ref 0), none, some (.int w2), some (.int w3)] [] σ (f_X7_laySegments_48 w2 k n w3 σ) := by
  intro n
  induction n with
  | zero => intro w3 σ; exact x_none
  | succ n ih =>
    intro w3 σ
    rw [f_X7_laySegments_48]
    refine x_iload_n dX7_laySegments_48 rfl rfl ?_
    refine x_aload_n dX7_laySegments_49 rfl rfl ?_
    refine x_getI dX7_laySegments_50 lk_RX7_130 rfl rfl ?_
    refine x_icmp_ge 87 dX7_laySegments_53 (by decide) (fun _ => ?_) (fun _ => ?_)
    · exact x_sub (x_le_s rfl (x_le_n (x_le_s rfl (x_le_n x_le_e)))) (hk  _)
    · refine x_aload_n dX7_laySegments_56 rfl rfl ?_
      refine x_getR dX7_laySegments_57 lk_RX7_25 rfl rfl ?_
      refine x_iload_n dX7_laySegments_60 rfl rfl ?_
      refine x_dup2 dX7_laySegments_61 rfl rfl ?_
      refine x_iald dX7_laySegments_62 rfl ?_
      refine x_aload_n dX7_laySegments_63 rfl rfl ?_
      refine x_iload_n dX7_laySegments_64 rfl rfl ?_
      refine x_iload_n dX7_laySegments_65 rfl rfl ?_
      refine x_callV2i dX7_laySegments_66 lc_RX7_150 (c_X7_isAbove _ _ _) rfl rfl rfl rfl rfl (fun r8 s9 => ?_)
      refine x_jn 79 (fun (v10 : Int32) => [some (.ref 0), none, some (.int w2), some (.int w3)]) (fun (v10 : Int32) => [.int v10, .int (σ.1 6 w2.toNatClampNeg), .int w2, .ref 6]) (fun v10 s11 => ?_) (fun j12 hj12 => ?_)
      · refine x_ior dX7_laySegments_79 ?_
        refine x_iastB dX7_laySegments_80 rfl (fun s13 => ?_)
        refine x_iinc dX7_laySegments_81 rfl rfl rfl rfl ?_
        refine x_goto 48 dX7_laySegments_84 (by decide) ?_
        exact x_sub (x_le_s rfl (x_le_n (x_le_s rfl (x_le_s rfl x_le_e)))) (ih _ _)
      · refine x_if_eq 78 dX7_laySegments_69 (by decide) (fun _ => ?_) (fun _ => ?_)
        · refine x_iconst (v := 0) dX7_laySegments_78 rfl ?_
          exact x_sub (x_le_s rfl (x_le_n (x_le_s rfl (x_le_s rfl x_le_e)))) (hj12 0 _)
        · refine x_iconst (v := 1) dX7_laySegments_72 rfl ?_
          refine x_iload_n dX7_laySegments_73 rfl rfl ?_
          refine x_ishl dX7_laySegments_74 ?_
          refine x_goto 79 dX7_laySegments_75 (by decide) ?_
          exact x_sub (x_le_s rfl (x_le_n (x_le_s rfl (x_le_s rfl x_le_e)))) (hj12 ((1 : Int32) <<< (w3 &&& 31)) _)

theorem t_X7_laySegments_31 (k : xSt → Option (Unit × xSt)) (hk : ∀ (σ : xSt), XP κv false m_X7_laySegments 4 shM 105 [some (.ref 0), none, none, none] [] σ (k  σ)) : ∀ (n : Nat) (w2 : Int32) (σ : xSt), XP κv false m_X7_laySegments 4 shM 31 [some (.ref 0), none, some (.int w2), none] [] σ (f_X7_laySegments_31 k n w2 σ) := by
  intro n
  induction n with
  | zero => intro w2 σ; exact x_none
  | succ n ih =>
    intro w2 σ
    rw [f_X7_laySegments_31]
    refine x_iload_n dX7_laySegments_31 rfl rfl ?_
    refine x_aload_n dX7_laySegments_32 rfl rfl ?_
    refine x_getI dX7_laySegments_33 lk_RX7_130 rfl rfl ?_
    refine x_icmp_ge 105 dX7_laySegments_36 (by decide) (fun _ => ?_) (fun _ => ?_)
    · exact x_sub (x_le_s rfl (x_le_n (x_le_n (x_le_n x_le_e)))) (hk  _)
    · refine x_aload_n dX7_laySegments_39 rfl rfl ?_
      refine x_getR dX7_laySegments_40 lk_RX7_25 rfl rfl ?_
      refine x_iload_n dX7_laySegments_43 rfl rfl ?_
      refine x_iconst (v := 0) dX7_laySegments_44 rfl ?_
      refine x_iastB dX7_laySegments_45 rfl (fun s7 => ?_)
      refine x_iconst (v := 0) dX7_laySegments_46 rfl ?_
      refine x_istore_n dX7_laySegments_47 rfl rfl rfl ?_
      refine x_sub (x_le_s rfl (x_le_n (x_le_s rfl (x_le_s rfl x_le_e)))) (t_X7_laySegments_48 _ _ (fun  s14 => ?_) FU _ _)
      refine x_aload_n dX7_laySegments_87 rfl rfl ?_
      refine x_getR dX7_laySegments_88 lk_RX7_28 rfl rfl ?_
      refine x_iload_n dX7_laySegments_91 rfl rfl ?_
      refine x_aload_n dX7_laySegments_92 rfl rfl ?_
      refine x_getR dX7_laySegments_93 lk_RX7_25 rfl rfl ?_
      refine x_iload_n dX7_laySegments_96 rfl rfl ?_
      refine x_iald dX7_laySegments_97 rfl ?_
      refine x_iastB dX7_laySegments_98 rfl (fun s15 => ?_)
      refine x_iinc dX7_laySegments_99 rfl rfl rfl rfl ?_
      refine x_goto 31 dX7_laySegments_102 (by decide) ?_
      exact x_sub (x_le_s rfl (x_le_n (x_le_s rfl (x_le_n x_le_e)))) (ih _ _)

theorem t_X7_laySegments_117 (w2 : Int32) (k : xSt → Option (Unit × xSt)) (hk : ∀ (σ : xSt), XP κv false m_X7_laySegments 4 shM 163 [some (.ref 0), none, some (.int w2), none] [] σ (k  σ)) : ∀ (n : Nat) (w3 : Int32) (σ : xSt), XP κv false m_X7_laySegments 4 shM 117 [some (.ref 0), none, some (.int w2), some (.int w3)] [] σ (f_X7_laySegments_117 w2 k n w3 σ) := by
  intro n
  induction n with
  | zero => intro w3 σ; exact x_none
  | succ n ih =>
    intro w3 σ
    rw [f_X7_laySegments_117]
    refine x_iload_n dX7_laySegments_117 rfl rfl ?_
    refine x_aload_n dX7_laySegments_118 rfl rfl ?_
    refine x_getI dX7_laySegments_119 lk_RX7_130 rfl rfl ?_
    refine x_icmp_ge 163 dX7_laySegments_122 (by decide) (fun _ => ?_) (fun _ => ?_)
    · exact x_sub (x_le_s rfl (x_le_n (x_le_s rfl (x_le_n x_le_e)))) (hk  _)
    · refine x_aload_n dX7_laySegments_125 rfl rfl ?_
      refine x_getR dX7_laySegments_126 lk_RX7_28 rfl rfl ?_
      refine x_iload_n dX7_laySegments_129 rfl rfl ?_
      refine x_dup2 dX7_laySegments_130 rfl rfl ?_
      refine x_iald dX7_laySegments_131 rfl ?_
      refine x_aload_n dX7_laySegments_132 rfl rfl ?_
      refine x_getR dX7_laySegments_133 lk_RX7_28 rfl rfl ?_
      refine x_iload_n dX7_laySegments_136 rfl rfl ?_
      refine x_iald dX7_laySegments_137 rfl ?_
      refine x_iload_n dX7_laySegments_138 rfl rfl ?_
      refine x_callS2i dX7_laySegments_139 lc_RX7_43 (c_X7_isBit _ _ _) rfl rfl (fun r17 s18 => ?_)
      refine x_jn 155 (fun (v19 : Int32) => [some (.ref 0), none, some (.int w2), some (.int w3)]) (fun (v19 : Int32) => [.int v19, .int (σ.1 7 w3.toNatClampNeg), .int w3, .ref 7]) (fun v19 s20 => ?_) (fun j21 hj21 => ?_)
      · refine x_ior dX7_laySegments_155 ?_
        refine x_iastB dX7_laySegments_156 rfl (fun s22 => ?_)
        refine x_iinc dX7_laySegments_157 rfl rfl rfl rfl ?_
        refine x_goto 117 dX7_laySegments_160 (by decide) ?_
        exact x_sub (x_le_s rfl (x_le_n (x_le_s rfl (x_le_s rfl x_le_e)))) (ih _ _)
      · refine x_if_eq 154 dX7_laySegments_142 (by decide) (fun _ => ?_) (fun _ => ?_)
        · refine x_iconst (v := 0) dX7_laySegments_154 rfl ?_
          exact x_sub (x_le_s rfl (x_le_n (x_le_s rfl (x_le_s rfl x_le_e)))) (hj21 0 _)
        · refine x_aload_n dX7_laySegments_145 rfl rfl ?_
          refine x_getR dX7_laySegments_146 lk_RX7_28 rfl rfl ?_
          refine x_iload_n dX7_laySegments_149 rfl rfl ?_
          refine x_iald dX7_laySegments_150 rfl ?_
          refine x_goto 155 dX7_laySegments_151 (by decide) ?_
          exact x_sub (x_le_s rfl (x_le_n (x_le_s rfl (x_le_s rfl x_le_e)))) (hj21 (s18.1 7 w2.toNatClampNeg) _)

theorem t_X7_laySegments_107 (k : xSt → Option (Unit × xSt)) (hk : ∀ (σ : xSt), XP κv false m_X7_laySegments 4 shM 169 [none, none, none, none] [] σ (k  σ)) : ∀ (n : Nat) (w2 : Int32) (σ : xSt), XP κv false m_X7_laySegments 4 shM 107 [some (.ref 0), none, some (.int w2), none] [] σ (f_X7_laySegments_107 k n w2 σ) := by
  intro n
  induction n with
  | zero => intro w2 σ; exact x_none
  | succ n ih =>
    intro w2 σ
    rw [f_X7_laySegments_107]
    refine x_iload_n dX7_laySegments_107 rfl rfl ?_
    refine x_aload_n dX7_laySegments_108 rfl rfl ?_
    refine x_getI dX7_laySegments_109 lk_RX7_130 rfl rfl ?_
    refine x_icmp_ge 169 dX7_laySegments_112 (by decide) (fun _ => ?_) (fun _ => ?_)
    · exact x_sub (x_le_n (x_le_n (x_le_n (x_le_n x_le_e)))) (hk  _)
    · refine x_iconst (v := 0) dX7_laySegments_115 rfl ?_
      refine x_istore_n dX7_laySegments_116 rfl rfl rfl ?_
      refine x_sub (x_le_s rfl (x_le_n (x_le_s rfl (x_le_s rfl x_le_e)))) (t_X7_laySegments_117 _ _ (fun  s23 => ?_) FU _ _)
      refine x_iinc dX7_laySegments_163 rfl rfl rfl rfl ?_
      refine x_goto 107 dX7_laySegments_166 (by decide) ?_
      exact x_sub (x_le_s rfl (x_le_n (x_le_s rfl (x_le_n x_le_e)))) (ih _ _)

theorem c_X7_laySegments (a1 : Int32) (σ : xSt) : CON κv yX7_laySegments m_X7_laySegments false 4 shM [.ref 0, .int a1] σ (f_X7_laySegments a1 σ) := by
  refine x_con (L := [some (.ref 0), some (.int a1), none, none]) (by decide) rfl rfl rfl ?_
  unfold f_X7_laySegments
  refine x_aload_n dX7_laySegments_0 rfl rfl ?_
  refine x_iconst (v := 0) dX7_laySegments_1 rfl ?_
  refine x_putIB dX7_laySegments_2 lp_RX7_130 rfl rfl (fun s1 => ?_)
  refine x_iconst (v := 0) dX7_laySegments_5 rfl ?_
  refine x_istore_n dX7_laySegments_6 rfl rfl rfl ?_
  refine x_sub (x_le_s rfl (x_le_s rfl (x_le_s rfl (x_le_n x_le_e)))) (t_X7_laySegments_7 _ _ (fun  s6 => ?_) FU _ _)
  refine x_iconst (v := 0) dX7_laySegments_29 rfl ?_
  refine x_istore_n dX7_laySegments_30 rfl rfl rfl ?_
  refine x_sub (x_le_s rfl (x_le_n (x_le_s rfl (x_le_n x_le_e)))) (t_X7_laySegments_31 _ (fun  s16 => ?_) FU _ _)
  refine x_iconst (v := 0) dX7_laySegments_105 rfl ?_
  refine x_istore_n dX7_laySegments_106 rfl rfl rfl ?_
  refine x_sub (x_le_s rfl (x_le_n (x_le_s rfl (x_le_n x_le_e)))) (t_X7_laySegments_107 _ (fun  s24 => ?_) FU _ _)
  exact x_vret dX7_laySegments_169 rfl

theorem t_X7_isRing_4 (k : Int32 → xSt → Option (Int32 × xSt)) (hk : ∀ (w1 : Int32) (σ : xSt), XP κi false m_X7_isRing 1 shM 41 [none, some (.int w1), none] [] σ (k w1 σ)) : ∀ (n : Nat) (w1 : Int32) (w2 : Int32) (σ : xSt), XP κi false m_X7_isRing 1 shM 4 [some (.ref 0), some (.int w1), some (.int w2)] [] σ (f_X7_isRing_4 k n w1 w2 σ) := by
  intro n
  induction n with
  | zero => intro w1 w2 σ; exact x_none
  | succ n ih =>
    intro w1 w2 σ
    rw [f_X7_isRing_4]
    refine x_iload_n dX7_isRing_4 rfl rfl ?_
    refine x_aload_n dX7_isRing_5 rfl rfl ?_
    refine x_getI dX7_isRing_6 lk_RX7_130 rfl rfl ?_
    refine x_icmp_ge 41 dX7_isRing_9 (by decide) (fun _ => ?_) (fun _ => ?_)
    · exact x_sub (x_le_n (x_le_s rfl (x_le_n x_le_e))) (hk _ _)
    · refine x_iload_n dX7_isRing_12 rfl rfl ?_
      refine x_jn 34 (fun (v8 : Int32) => [some (.ref 0), none, some (.int w2)]) (fun (v8 : Int32) => [.int v8]) (fun v8 s9 => ?_) (fun j10 hj10 => ?_)
      · refine x_istore_n dX7_isRing_34 rfl rfl rfl ?_
        refine x_iinc dX7_isRing_35 rfl rfl rfl rfl ?_
        refine x_goto 4 dX7_isRing_38 (by decide) ?_
        exact x_sub (x_le_s rfl (x_le_s rfl (x_le_s rfl x_le_e))) (ih _ _ _)
      · refine x_jn 29 (fun (v13 : Unit) => [some (.ref 0), none, some (.int w2)]) (fun (v13 : Unit) => []) (fun v13 s14 => ?_) (fun j15 hj15 => ?_)
        · refine x_iconst (v := 1) dX7_isRing_29 rfl ?_
          refine x_goto 34 dX7_isRing_30 (by decide) ?_
          exact x_sub (x_le_s rfl (x_le_n (x_le_s rfl x_le_e))) (hj10 1 _)
        · refine x_if_ne 29 dX7_isRing_13 (by decide) (fun _ => ?_) (fun _ => ?_)
          · exact x_sub (x_le_s rfl (x_le_n (x_le_s rfl x_le_e))) (hj15 () _)
          · refine x_aload_n dX7_isRing_16 rfl rfl ?_
            refine x_getR dX7_isRing_17 lk_RX7_28 rfl rfl ?_
            refine x_iload_n dX7_isRing_20 rfl rfl ?_
            refine x_iald dX7_isRing_21 rfl ?_
            refine x_iload_n dX7_isRing_22 rfl rfl ?_
            refine x_callS2i dX7_isRing_23 lc_RX7_43 (c_X7_isBit _ _ _) rfl rfl (fun r16 s17 => ?_)
            refine x_if_eq 33 dX7_isRing_26 (by decide) (fun _ => ?_) (fun _ => ?_)
            · refine x_iconst (v := 0) dX7_isRing_33 rfl ?_
              exact x_sub (x_le_s rfl (x_le_n (x_le_s rfl x_le_e))) (hj10 0 _)
            · exact x_sub (x_le_s rfl (x_le_n (x_le_s rfl x_le_e))) (hj15 () _)

theorem c_X7_isRing (σ : xSt) : CON κi yX7_isRing m_X7_isRing false 1 shM [.ref 0] σ (f_X7_isRing σ) := by
  refine x_con (L := [some (.ref 0), none, none]) (by decide) rfl rfl rfl ?_
  unfold f_X7_isRing
  refine x_iconst (v := 0) dX7_isRing_0 rfl ?_
  refine x_istore_n dX7_isRing_1 rfl rfl rfl ?_
  refine x_iconst (v := 0) dX7_isRing_2 rfl ?_
  refine x_istore_n dX7_isRing_3 rfl rfl rfl ?_
  refine x_sub (x_le_s rfl (x_le_s rfl (x_le_s rfl x_le_e))) (t_X7_isRing_4 _ (fun e18 s19 => ?_) FU _ _ _)
  refine x_iload_n dX7_isRing_41 rfl rfl ?_
  exact x_zret dX7_isRing_42 rfl

theorem t_X7_layBack_26 (w1 : Int32) (w2 : Int32) (w3 : Int32) (k : xSt → Option (Int32 × xSt)) (hk : ∀ (σ : xSt), XP κi false m_X7_layBack 1 shM 100 [some (.ref 0), some (.int w1), some (.int w2), some (.int w3), none, none] [] σ (k  σ)) : ∀ (n : Nat) (w4 : Int32) (σ : xSt), XP κi false m_X7_layBack 1 shM 26 [some (.ref 0), some (.int w1), some (.int w2), some (.int w3), some (.int w4), none] [] σ (f_X7_layBack_26 w1 w2 w3 k n w4 σ) := by
  intro n
  induction n with
  | zero => intro w4 σ; exact x_none
  | succ n ih =>
    intro w4 σ
    rw [f_X7_layBack_26]
    refine x_iload dX7_layBack_26 rfl ?_
    refine x_aload_n dX7_layBack_28 rfl rfl ?_
    refine x_getI dX7_layBack_29 lk_RX7_130 rfl rfl ?_
    refine x_icmp_ge 100 dX7_layBack_32 (by decide) (fun _ => ?_) (fun _ => ?_)
    · exact x_sub (x_le_s rfl (x_le_s rfl (x_le_s rfl (x_le_s rfl (x_le_n (x_le_n x_le_e)))))) (hk  _)
    · refine x_aload_n dX7_layBack_35 rfl rfl ?_
      refine x_getR dX7_layBack_36 lk_RX7_25 rfl rfl ?_
      refine x_iload dX7_layBack_39 rfl ?_
      refine x_iald dX7_layBack_41 rfl ?_
      refine x_aload_n dX7_layBack_42 rfl rfl ?_
      refine x_getR dX7_layBack_43 lk_RX7_37 rfl rfl ?_
      refine x_iload_n dX7_layBack_46 rfl rfl ?_
      refine x_iconst (v := 1) dX7_layBack_47 rfl ?_
      refine x_isub dX7_layBack_48 ?_
      refine x_iald dX7_layBack_49 rfl ?_
      refine x_iand dX7_layBack_50 ?_
      refine x_jn 70 (fun (v12 : Int32) => [some (.ref 0), some (.int w1), some (.int w2), some (.int w3), some (.int w4), none]) (fun (v12 : Int32) => [.int v12]) (fun v12 s13 => ?_) (fun j14 hj14 => ?_)
      · refine x_istore dX7_layBack_70 rfl rfl ?_
        refine x_aload_n dX7_layBack_72 rfl rfl ?_
        refine x_getR dX7_layBack_73 lk_RX7_37 rfl rfl ?_
        refine x_iload_n dX7_layBack_76 rfl rfl ?_
        refine x_dup2 dX7_layBack_77 rfl rfl ?_
        refine x_iald dX7_layBack_78 rfl ?_
        refine x_iload dX7_layBack_79 rfl ?_
        refine x_jn 92 (fun (v15 : Int32) => [some (.ref 0), some (.int w1), some (.int w2), some (.int w3), some (.int w4), none]) (fun (v15 : Int32) => [.int v15, .int (s13.1 10 w3.toNatClampNeg), .int w3, .ref 10]) (fun v15 s16 => ?_) (fun j17 hj17 => ?_)
        · refine x_ior dX7_layBack_92 ?_
          refine x_iastB dX7_layBack_93 rfl (fun s18 => ?_)
          refine x_iinc dX7_layBack_94 rfl rfl rfl rfl ?_
          refine x_goto 26 dX7_layBack_97 (by decide) ?_
          exact x_sub (x_le_s rfl (x_le_s rfl (x_le_s rfl (x_le_s rfl (x_le_s rfl (x_le_n x_le_e)))))) (ih _ _)
        · refine x_if_eq 91 dX7_layBack_81 (by decide) (fun _ => ?_) (fun _ => ?_)
          · refine x_iconst (v := 0) dX7_layBack_91 rfl ?_
            exact x_sub (x_le_s rfl (x_le_s rfl (x_le_s rfl (x_le_s rfl (x_le_s rfl (x_le_n x_le_e)))))) (hj17 0 _)
          · refine x_iconst (v := 1) dX7_layBack_84 rfl ?_
            refine x_iload dX7_layBack_85 rfl ?_
            refine x_ishl dX7_layBack_87 ?_
            refine x_goto 92 dX7_layBack_88 (by decide) ?_
            exact x_sub (x_le_s rfl (x_le_s rfl (x_le_s rfl (x_le_s rfl (x_le_s rfl (x_le_n x_le_e)))))) (hj17 ((1 : Int32) <<< (w4 &&& 31)) _)
      · refine x_jn 69 (fun (v22 : Unit) => [some (.ref 0), some (.int w1), some (.int w2), some (.int w3), some (.int w4), none]) (fun (v22 : Unit) => []) (fun v22 s23 => ?_) (fun j24 hj24 => ?_)
        · refine x_iconst (v := 0) dX7_layBack_69 rfl ?_
          exact x_sub (x_le_s rfl (x_le_s rfl (x_le_s rfl (x_le_s rfl (x_le_s rfl (x_le_n x_le_e)))))) (hj14 0 _)
        · refine x_if_eq 69 dX7_layBack_51 (by decide) (fun _ => ?_) (fun _ => ?_)
          · exact x_sub (x_le_s rfl (x_le_s rfl (x_le_s rfl (x_le_s rfl (x_le_s rfl (x_le_n x_le_e)))))) (hj24 () _)
          · refine x_iload dX7_layBack_54 rfl ?_
            refine x_iload_n dX7_layBack_56 rfl rfl ?_
            refine x_jn 65 (fun (v25 : Unit) => [some (.ref 0), some (.int w1), some (.int w2), some (.int w3), some (.int w4), none]) (fun (v25 : Unit) => []) (fun v25 s26 => ?_) (fun j27 hj27 => ?_)
            · refine x_iconst (v := 1) dX7_layBack_65 rfl ?_
              refine x_goto 70 dX7_layBack_66 (by decide) ?_
              exact x_sub (x_le_s rfl (x_le_s rfl (x_le_s rfl (x_le_s rfl (x_le_s rfl (x_le_n x_le_e)))))) (hj14 1 _)
            · refine x_icmp_gt 65 dX7_layBack_57 (by decide) (fun _ => ?_) (fun _ => ?_)
              · exact x_sub (x_le_s rfl (x_le_s rfl (x_le_s rfl (x_le_s rfl (x_le_s rfl (x_le_n x_le_e)))))) (hj27 () _)
              · refine x_iload_n dX7_layBack_60 rfl rfl ?_
                refine x_iload_n dX7_layBack_61 rfl rfl ?_
                refine x_icmp_ne 69 dX7_layBack_62 (by decide) (fun _ => ?_) (fun _ => ?_)
                · exact x_sub (x_le_s rfl (x_le_s rfl (x_le_s rfl (x_le_s rfl (x_le_s rfl (x_le_n x_le_e)))))) (hj24 () _)
                · exact x_sub (x_le_s rfl (x_le_s rfl (x_le_s rfl (x_le_s rfl (x_le_s rfl (x_le_n x_le_e)))))) (hj27 () _)

theorem t_X7_layBack_11 (w1 : Int32) (w2 : Int32) (k : xSt → Option (Int32 × xSt)) (hk : ∀ (σ : xSt), XP κi false m_X7_layBack 1 shM 106 [some (.ref 0), some (.int w1), some (.int w2), none, none, none] [] σ (k  σ)) : ∀ (n : Nat) (w3 : Int32) (σ : xSt), XP κi false m_X7_layBack 1 shM 11 [some (.ref 0), some (.int w1), some (.int w2), some (.int w3), none, none] [] σ (f_X7_layBack_11 w1 w2 k n w3 σ) := by
  intro n
  induction n with
  | zero => intro w3 σ; exact x_none
  | succ n ih =>
    intro w3 σ
    rw [f_X7_layBack_11]
    refine x_iload_n dX7_layBack_11 rfl rfl ?_
    refine x_iload_n dX7_layBack_12 rfl rfl ?_
    refine x_icmp_gt 106 dX7_layBack_13 (by decide) (fun _ => ?_) (fun _ => ?_)
    · exact x_sub (x_le_s rfl (x_le_s rfl (x_le_s rfl (x_le_n (x_le_n (x_le_n x_le_e)))))) (hk  _)
    · refine x_aload_n dX7_layBack_16 rfl rfl ?_
      refine x_getR dX7_layBack_17 lk_RX7_37 rfl rfl ?_
      refine x_iload_n dX7_layBack_20 rfl rfl ?_
      refine x_iconst (v := 0) dX7_layBack_21 rfl ?_
      refine x_iastB dX7_layBack_22 rfl (fun s2 => ?_)
      refine x_iload_n dX7_layBack_23 rfl rfl ?_
      refine x_istore dX7_layBack_24 rfl rfl ?_
      refine x_sub (x_le_s rfl (x_le_s rfl (x_le_s rfl (x_le_s rfl (x_le_s rfl (x_le_n x_le_e)))))) (t_X7_layBack_26 _ _ _ _ (fun  s28 => ?_) FU _ _)
      refine x_iinc dX7_layBack_100 rfl rfl rfl rfl ?_
      refine x_goto 11 dX7_layBack_103 (by decide) ?_
      exact x_sub (x_le_s rfl (x_le_s rfl (x_le_s rfl (x_le_s rfl (x_le_n (x_le_n x_le_e)))))) (ih _ _)

theorem c_X7_layBack (a1 : Int32) (a2 : Int32) (σ : xSt) : CON κi yX7_layBack m_X7_layBack false 1 shM [.ref 0, .int a1, .int a2] σ (f_X7_layBack a1 a2 σ) := by
  refine x_con (L := [some (.ref 0), some (.int a1), some (.int a2), none, none, none]) (by decide) rfl rfl rfl ?_
  unfold f_X7_layBack
  refine x_aload_n dX7_layBack_0 rfl rfl ?_
  refine x_getR dX7_layBack_1 lk_RX7_37 rfl rfl ?_
  refine x_iconst (v := 0) dX7_layBack_4 rfl ?_
  refine x_iconst (v := 1) dX7_layBack_5 rfl ?_
  refine x_iload_n dX7_layBack_6 rfl rfl ?_
  refine x_ishl dX7_layBack_7 ?_
  refine x_iastB dX7_layBack_8 rfl (fun s1 => ?_)
  refine x_iconst (v := 1) dX7_layBack_9 rfl ?_
  refine x_istore_n dX7_layBack_10 rfl rfl rfl ?_
  refine x_sub (x_le_s rfl (x_le_s rfl (x_le_s rfl (x_le_s rfl (x_le_n (x_le_n x_le_e)))))) (t_X7_layBack_11 _ _ _ (fun  s29 => ?_) FU _ _)
  refine x_aload_n dX7_layBack_106 rfl rfl ?_
  refine x_getR dX7_layBack_107 lk_RX7_37 rfl rfl ?_
  refine x_iload_n dX7_layBack_110 rfl rfl ?_
  refine x_iald dX7_layBack_111 rfl ?_
  refine x_iload_n dX7_layBack_112 rfl rfl ?_
  refine x_callS2i dX7_layBack_113 lc_RX7_43 (c_X7_isBit _ _ _) rfl rfl (fun r30 s31 => ?_)
  exact x_zret dX7_layBack_116 rfl

theorem t_X7_findRing_33 (w1 : Int32) (k : xSt → Option (Int32 × xSt)) (hk : ∀ (σ : xSt), XP κi false m_X7_findRing 2 shM 75 [none, none, none, none] [] σ (k  σ)) : ∀ (n : Nat) (w3 : Int32) (σ : xSt), XP κi false m_X7_findRing 2 shM 33 [some (.ref 0), some (.int w1), none, some (.int w3)] [] σ (f_X7_findRing_33 w1 k n w3 σ) := by
  intro n
  induction n with
  | zero => intro w3 σ; exact x_none
  | succ n ih =>
    intro w3 σ
    rw [f_X7_findRing_33]
    refine x_iload_n dX7_findRing_33 rfl rfl ?_
    refine x_iload_n dX7_findRing_34 rfl rfl ?_
    refine x_icmp_ge 75 dX7_findRing_35 (by decide) (fun _ => ?_) (fun _ => ?_)
    · exact x_sub (x_le_n (x_le_n (x_le_n (x_le_n x_le_e)))) (hk  _)
    · refine x_aload_n dX7_findRing_38 rfl rfl ?_
      refine x_getR dX7_findRing_39 lk_RX7_31 rfl rfl ?_
      refine x_iload_n dX7_findRing_42 rfl rfl ?_
      refine x_aload_n dX7_findRing_43 rfl rfl ?_
      refine x_getR dX7_findRing_44 lk_RX7_25 rfl rfl ?_
      refine x_aload_n dX7_findRing_47 rfl rfl ?_
      refine x_getR dX7_findRing_48 lk_RX7_31 rfl rfl ?_
      refine x_iload_n dX7_findRing_51 rfl rfl ?_
      refine x_iconst (v := 1) dX7_findRing_52 rfl ?_
      refine x_isub dX7_findRing_53 ?_
      refine x_iald dX7_findRing_54 rfl ?_
      refine x_iald dX7_findRing_55 rfl ?_
      refine x_aload_n dX7_findRing_56 rfl rfl ?_
      refine x_getR dX7_findRing_57 lk_RX7_37 rfl rfl ?_
      refine x_iload_n dX7_findRing_60 rfl rfl ?_
      refine x_iload_n dX7_findRing_61 rfl rfl ?_
      refine x_isub dX7_findRing_62 ?_
      refine x_iald dX7_findRing_63 rfl ?_
      refine x_iand dX7_findRing_64 ?_
      refine x_callS1i dX7_findRing_65 lc_RX7_159 (c_X7_leastOf _ _) rfl rfl (fun r5 s6 => ?_)
      refine x_iastB dX7_findRing_68 rfl (fun s7 => ?_)
      refine x_iinc dX7_findRing_69 rfl rfl rfl rfl ?_
      refine x_goto 33 dX7_findRing_72 (by decide) ?_
      exact x_sub (x_le_s rfl (x_le_s rfl (x_le_n (x_le_s rfl x_le_e)))) (ih _ _)

theorem t_X7_findRing_2 (w1 : Int32) (k : xSt → Option (Int32 × xSt)) (hk : ∀ (σ : xSt), XP κi false m_X7_findRing 2 shM 83 [none, none, none, none] [] σ (k  σ)) : ∀ (n : Nat) (w2 : Int32) (σ : xSt), XP κi false m_X7_findRing 2 shM 2 [some (.ref 0), some (.int w1), some (.int w2), none] [] σ (f_X7_findRing_2 w1 k n w2 σ) := by
  intro n
  induction n with
  | zero => intro w2 σ; exact x_none
  | succ n ih =>
    intro w2 σ
    rw [f_X7_findRing_2]
    refine x_iload_n dX7_findRing_2 rfl rfl ?_
    refine x_aload_n dX7_findRing_3 rfl rfl ?_
    refine x_getI dX7_findRing_4 lk_RX7_130 rfl rfl ?_
    refine x_icmp_ge 83 dX7_findRing_7 (by decide) (fun _ => ?_) (fun _ => ?_)
    · exact x_sub (x_le_n (x_le_n (x_le_n (x_le_n x_le_e)))) (hk  _)
    · refine x_aload_n dX7_findRing_10 rfl rfl ?_
      refine x_iload_n dX7_findRing_11 rfl rfl ?_
      refine x_iload_n dX7_findRing_12 rfl rfl ?_
      refine x_callV2i dX7_findRing_13 lc_RX7_153 (c_X7_layBack _ _ _) rfl rfl rfl rfl rfl (fun r1 s2 => ?_)
      refine x_if_eq 77 dX7_findRing_16 (by decide) (fun _ => ?_) (fun _ => ?_)
      · refine x_iinc dX7_findRing_77 rfl rfl rfl rfl ?_
        refine x_goto 2 dX7_findRing_80 (by decide) ?_
        exact x_sub (x_le_s rfl (x_le_s rfl (x_le_s rfl (x_le_n x_le_e)))) (ih _ _)
      · refine x_aload_n dX7_findRing_19 rfl rfl ?_
        refine x_iload_n dX7_findRing_20 rfl rfl ?_
        refine x_putIB dX7_findRing_21 lp_RX7_156 rfl rfl (fun s3 => ?_)
        refine x_aload_n dX7_findRing_24 rfl rfl ?_
        refine x_getR dX7_findRing_25 lk_RX7_31 rfl rfl ?_
        refine x_iconst (v := 0) dX7_findRing_28 rfl ?_
        refine x_iload_n dX7_findRing_29 rfl rfl ?_
        refine x_iastB dX7_findRing_30 rfl (fun s4 => ?_)
        refine x_iconst (v := 1) dX7_findRing_31 rfl ?_
        refine x_istore_n dX7_findRing_32 rfl rfl rfl ?_
        refine x_sub (x_le_s rfl (x_le_s rfl (x_le_n (x_le_s rfl x_le_e)))) (t_X7_findRing_33 _ _ (fun  s8 => ?_) FU _ _)
        refine x_iconst (v := 1) dX7_findRing_75 rfl ?_
        exact x_zret dX7_findRing_76 rfl

theorem c_X7_findRing (a1 : Int32) (σ : xSt) : CON κi yX7_findRing m_X7_findRing false 2 shM [.ref 0, .int a1] σ (f_X7_findRing a1 σ) := by
  refine x_con (L := [some (.ref 0), some (.int a1), none, none]) (by decide) rfl rfl rfl ?_
  unfold f_X7_findRing
  refine x_iconst (v := 0) dX7_findRing_0 rfl ?_
  refine x_istore_n dX7_findRing_1 rfl rfl rfl ?_
  refine x_sub (x_le_s rfl (x_le_s rfl (x_le_s rfl (x_le_n x_le_e)))) (t_X7_findRing_2 _ _ (fun  s9 => ?_) FU _ _)
  refine x_iconst (v := 0) dX7_findRing_83 rfl ?_
  exact x_zret dX7_findRing_84 rfl

theorem t_X7_layRing_7 (k : xSt → Option (Unit × xSt)) (hk : ∀ (σ : xSt), XP κv false m_X7_layRing 3 shM 36 [none, none] [] σ (k  σ)) : ∀ (n : Nat) (w1 : Int32) (σ : xSt), XP κv false m_X7_layRing 3 shM 7 [some (.ref 0), some (.int w1)] [] σ (f_X7_layRing_7 k n w1 σ) := by
  intro n
  induction n with
  | zero => intro w1 σ; exact x_none
  | succ n ih =>
    intro w1 σ
    rw [f_X7_layRing_7]
    refine x_aload_n dX7_layRing_7 rfl rfl ?_
    refine x_callV0i dX7_layRing_8 lc_RX7_162 (c_X7_isRing _) rfl rfl rfl rfl rfl (fun r2 s3 => ?_)
    refine x_if_eq 36 dX7_layRing_11 (by decide) (fun _ => ?_) (fun _ => ?_)
    · exact x_sub (x_le_n (x_le_n x_le_e)) (hk  _)
    · refine x_iload_n dX7_layRing_14 rfl rfl ?_
      refine x_aload_n dX7_layRing_15 rfl rfl ?_
      refine x_getI dX7_layRing_16 lk_RX7_130 rfl rfl ?_
      refine x_icmp_gt 36 dX7_layRing_19 (by decide) (fun _ => ?_) (fun _ => ?_)
      · exact x_sub (x_le_n (x_le_n x_le_e)) (hk  _)
      · refine x_aload_n dX7_layRing_22 rfl rfl ?_
        refine x_iload_n dX7_layRing_23 rfl rfl ?_
        refine x_callV1i dX7_layRing_24 lc_RX7_166 (c_X7_findRing _ _) rfl rfl rfl rfl rfl (fun r4 s5 => ?_)
        refine x_if_ne 36 dX7_layRing_27 (by decide) (fun _ => ?_) (fun _ => ?_)
        · exact x_sub (x_le_n (x_le_n x_le_e)) (hk  _)
        · refine x_iinc dX7_layRing_30 rfl rfl rfl rfl ?_
          refine x_goto 7 dX7_layRing_33 (by decide) ?_
          exact x_sub (x_le_s rfl (x_le_s rfl x_le_e)) (ih _ _)

theorem c_X7_layRing (σ : xSt) : CON κv yX7_layRing m_X7_layRing false 3 shM [.ref 0] σ (f_X7_layRing σ) := by
  refine x_con (L := [some (.ref 0), none]) (by decide) rfl rfl rfl ?_
  unfold f_X7_layRing
  refine x_aload_n dX7_layRing_0 rfl rfl ?_
  refine x_iconst (v := 0) dX7_layRing_1 rfl ?_
  refine x_putIB dX7_layRing_2 lp_RX7_156 rfl rfl (fun s1 => ?_)
  refine x_iconst (v := 2) dX7_layRing_5 rfl ?_
  refine x_istore_n dX7_layRing_6 rfl rfl rfl ?_
  refine x_sub (x_le_s rfl (x_le_s rfl x_le_e)) (t_X7_layRing_7 _ (fun  s6 => ?_) FU _ _)
  exact x_vret dX7_layRing_36 rfl

theorem c_X7_layNow (σ : xSt) : CON κv yX7_layNow m_X7_layNow false 5 shM [.ref 0] σ (f_X7_layNow σ) := by
  refine x_con (L := [some (.ref 0)]) (by decide) rfl rfl rfl ?_
  unfold f_X7_layNow
  refine x_aload_n dX7_layNow_0 rfl rfl ?_
  refine x_aload_n dX7_layNow_1 rfl rfl ?_
  refine x_getI dX7_layNow_2 lk_RX7_93 rfl rfl ?_
  refine x_callV1v dX7_layNow_5 lc_RX7_169 (c_X7_laySegments _ _) rfl rfl rfl rfl rfl (fun r1 s2 => ?_)
  refine x_aload_n dX7_layNow_8 rfl rfl ?_
  refine x_callV0v dX7_layNow_9 lc_RX7_173 (c_X7_layRing _) rfl rfl rfl rfl rfl (fun r3 s4 => ?_)
  exact x_vret dX7_layNow_12 rfl

theorem t_X7_layNew_6 (k : xSt → Option (Unit × xSt)) (hk : ∀ (σ : xSt), XP κv false m_X7_layNew 6 shM 25 [none, none] [] σ (k  σ)) : ∀ (n : Nat) (w1 : Int32) (σ : xSt), XP κv false m_X7_layNew 6 shM 6 [some (.ref 0), some (.int w1)] [] σ (f_X7_layNew_6 k n w1 σ) := by
  intro n
  induction n with
  | zero => intro w1 σ; exact x_none
  | succ n ih =>
    intro w1 σ
    rw [f_X7_layNew_6]
    refine x_iload_n dX7_layNew_6 rfl rfl ?_
    refine x_bipush (v := 14) dX7_layNew_7 rfl ?_
    refine x_icmp_ge 25 dX7_layNew_9 (by decide) (fun _ => ?_) (fun _ => ?_)
    · exact x_sub (x_le_n (x_le_n x_le_e)) (hk  _)
    · refine x_aload_n dX7_layNew_12 rfl rfl ?_
      refine x_getR dX7_layNew_13 lk_RX7_22 rfl rfl ?_
      refine x_iload_n dX7_layNew_16 rfl rfl ?_
      refine x_iconst (v := -1) dX7_layNew_17 rfl ?_
      refine x_iastB dX7_layNew_18 rfl (fun s3 => ?_)
      refine x_iinc dX7_layNew_19 rfl rfl rfl rfl ?_
      refine x_goto 6 dX7_layNew_22 (by decide) ?_
      exact x_sub (x_le_s rfl (x_le_s rfl x_le_e)) (ih _ _)

theorem c_X7_layNew (σ : xSt) : CON κv yX7_layNew m_X7_layNew false 6 shM [.ref 0] σ (f_X7_layNew σ) := by
  refine x_con (L := [some (.ref 0), none]) (by decide) rfl rfl rfl ?_
  unfold f_X7_layNew
  refine x_aload_n dX7_layNew_0 rfl rfl ?_
  refine x_callV0v dX7_layNew_1 lc_RX7_176 (c_X7_layNow _) rfl rfl rfl rfl rfl (fun r1 s2 => ?_)
  refine x_iconst (v := 0) dX7_layNew_4 rfl ?_
  refine x_istore_n dX7_layNew_5 rfl rfl rfl ?_
  refine x_sub (x_le_s rfl (x_le_s rfl x_le_e)) (t_X7_layNew_6 _ (fun  s4 => ?_) FU _ _)
  exact x_vret dX7_layNew_25 rfl

theorem t_X7_channel_25 (k : xSt → Option (Int32 × xSt)) (hk : ∀ (σ : xSt), XP κi false m_X7_channel 7 shM 82 [some (.ref 0), none] [] σ (k  σ)) : ∀ (n : Nat) (w1 : Int32) (σ : xSt), XP κi false m_X7_channel 7 shM 25 [some (.ref 0), some (.int w1)] [] σ (f_X7_channel_25 k n w1 σ) := by
  intro n
  induction n with
  | zero => intro w1 σ; exact x_none
  | succ n ih =>
    intro w1 σ
    rw [f_X7_channel_25]
    refine x_iload_n dX7_channel_25 rfl rfl ?_
    refine x_aload_n dX7_channel_26 rfl rfl ?_
    refine x_getI dX7_channel_27 lk_RX7_87 rfl rfl ?_
    refine x_icmp_ge 82 dX7_channel_30 (by decide) (fun _ => ?_) (fun _ => ?_)
    · exact x_sub (x_le_s rfl (x_le_n x_le_e)) (hk  _)
    · refine x_aload_n dX7_channel_33 rfl rfl ?_
      refine x_getR dX7_channel_34 lk_RX7_7 rfl rfl ?_
      refine x_iconst (v := 2) dX7_channel_37 rfl ?_
      refine x_iload_n dX7_channel_38 rfl rfl ?_
      refine x_imul dX7_channel_39 ?_
      refine x_aload_n dX7_channel_40 rfl rfl ?_
      refine x_getR dX7_channel_41 lk_RX7_34 rfl rfl ?_
      refine x_iload_n dX7_channel_44 rfl rfl ?_
      refine x_iald dX7_channel_45 rfl ?_
      refine x_callS1i dX7_channel_46 lc_RX7_90 (c_X7_netBy _ _) rfl rfl (fun r4 s5 => ?_)
      refine x_iastB dX7_channel_49 rfl (fun s6 => ?_)
      refine x_aload_n dX7_channel_50 rfl rfl ?_
      refine x_getR dX7_channel_51 lk_RX7_7 rfl rfl ?_
      refine x_iconst (v := 2) dX7_channel_54 rfl ?_
      refine x_iload_n dX7_channel_55 rfl rfl ?_
      refine x_imul dX7_channel_56 ?_
      refine x_iconst (v := 1) dX7_channel_57 rfl ?_
      refine x_iadd dX7_channel_58 ?_
      refine x_aload_n dX7_channel_59 rfl rfl ?_
      refine x_getR dX7_channel_60 lk_RX7_34 rfl rfl ?_
      refine x_aload_n dX7_channel_63 rfl rfl ?_
      refine x_getI dX7_channel_64 lk_RX7_87 rfl rfl ?_
      refine x_iconst (v := 1) dX7_channel_67 rfl ?_
      refine x_iadd dX7_channel_68 ?_
      refine x_iload_n dX7_channel_69 rfl rfl ?_
      refine x_iadd dX7_channel_70 ?_
      refine x_iald dX7_channel_71 rfl ?_
      refine x_callS1i dX7_channel_72 lc_RX7_90 (c_X7_netBy _ _) rfl rfl (fun r7 s8 => ?_)
      refine x_iastB dX7_channel_75 rfl (fun s9 => ?_)
      refine x_iinc dX7_channel_76 rfl rfl rfl rfl ?_
      refine x_goto 25 dX7_channel_79 (by decide) ?_
      exact x_sub (x_le_s rfl (x_le_s rfl x_le_e)) (ih _ _)

theorem c_X7_channel (σ : xSt) : CON κi yX7_channel m_X7_channel false 7 shM [.ref 0] σ (f_X7_channel σ) := by
  refine x_con (L := [some (.ref 0), none]) (by decide) rfl rfl rfl ?_
  unfold f_X7_channel
  refine x_aload_n dX7_channel_0 rfl rfl ?_
  refine x_callV0i dX7_channel_1 lc_RX7_80 (c_X7_readChannel _) rfl rfl rfl rfl rfl (fun r1 s2 => ?_)
  refine x_pop dX7_channel_4 rfl ?_
  refine x_aload_n dX7_channel_5 rfl rfl ?_
  refine x_getI dX7_channel_6 lk_RX7_59 rfl rfl ?_
  refine x_if_ne 15 dX7_channel_9 (by decide) (fun _ => ?_) (fun _ => ?_)
  · refine x_aload_n dX7_channel_15 rfl rfl ?_
    refine x_aload_n dX7_channel_16 rfl rfl ?_
    refine x_getI dX7_channel_17 lk_RX7_67 rfl rfl ?_
    refine x_putIB dX7_channel_20 lp_RX7_87 rfl rfl (fun s3 => ?_)
    refine x_iconst (v := 0) dX7_channel_23 rfl ?_
    refine x_istore_n dX7_channel_24 rfl rfl rfl ?_
    refine x_sub (x_le_s rfl (x_le_s rfl x_le_e)) (t_X7_channel_25 _ (fun  s10 => ?_) FU _ _)
    refine x_aload_n dX7_channel_82 rfl rfl ?_
    refine x_iconst (v := 0) dX7_channel_83 rfl ?_
    refine x_putIB dX7_channel_84 lp_RX7_93 rfl rfl (fun s11 => ?_)
    refine x_aload_n dX7_channel_87 rfl rfl ?_
    refine x_dup dX7_channel_88 rfl ?_
    refine x_getI dX7_channel_89 lk_RX7_96 rfl rfl ?_
    refine x_iconst (v := 1) dX7_channel_92 rfl ?_
    refine x_iadd dX7_channel_93 ?_
    refine x_putIB dX7_channel_94 lp_RX7_96 rfl rfl (fun s12 => ?_)
    refine x_aload_n dX7_channel_97 rfl rfl ?_
    refine x_iconst (v := 0) dX7_channel_98 rfl ?_
    refine x_putIB dX7_channel_99 lp_RX7_51 rfl rfl (fun s13 => ?_)
    refine x_aload_n dX7_channel_102 rfl rfl ?_
    refine x_callV0v dX7_channel_103 lc_RX7_99 (c_X7_layNew _) rfl rfl rfl rfl rfl (fun r14 s15 => ?_)
    refine x_aload_n dX7_channel_106 rfl rfl ?_
    refine x_getI dX7_channel_107 lk_RX7_87 rfl rfl ?_
    exact x_iret dX7_channel_110 rfl
  · refine x_bipush (v := -103) dX7_channel_12 rfl ?_
    exact x_iret dX7_channel_14 rfl

theorem c_X7_isThere (σ : xSt) : CON κi yX7_isThere m_X7_isThere false 0 shM [.ref 0] σ (f_X7_isThere σ) := by
  refine x_con (L := [some (.ref 0)]) (by decide) rfl rfl rfl ?_
  unfold f_X7_isThere
  refine x_aload_n dX7_isThere_0 rfl rfl ?_
  refine x_getI dX7_isThere_1 lk_RX7_87 rfl rfl ?_
  refine x_jn 12 (fun (v1 : Int32) => [none]) (fun (v1 : Int32) => [.int v1]) (fun v1 s2 => ?_) (fun j3 hj3 => ?_)
  · exact x_zret dX7_isThere_12 rfl
  · refine x_if_le 11 dX7_isThere_4 (by decide) (fun _ => ?_) (fun _ => ?_)
    · refine x_iconst (v := 0) dX7_isThere_11 rfl ?_
      exact x_sub (x_le_n x_le_e) (hj3 0 _)
    · refine x_iconst (v := 1) dX7_isThere_7 rfl ?_
      refine x_goto 12 dX7_isThere_8 (by decide) ?_
      exact x_sub (x_le_n x_le_e) (hj3 1 _)

theorem t_X7_withTrack_4 (k : Int32 → xSt → Option (Int32 × xSt)) (hk : ∀ (w1 : Int32) (σ : xSt), XP κi false m_X7_withTrack 0 shM 36 [none, some (.int w1), none] [] σ (k w1 σ)) : ∀ (n : Nat) (w1 : Int32) (w2 : Int32) (σ : xSt), XP κi false m_X7_withTrack 0 shM 4 [some (.ref 0), some (.int w1), some (.int w2)] [] σ (f_X7_withTrack_4 k n w1 w2 σ) := by
  intro n
  induction n with
  | zero => intro w1 w2 σ; exact x_none
  | succ n ih =>
    intro w1 w2 σ
    rw [f_X7_withTrack_4]
    refine x_iload_n dX7_withTrack_4 rfl rfl ?_
    refine x_aload_n dX7_withTrack_5 rfl rfl ?_
    refine x_getI dX7_withTrack_6 lk_RX7_130 rfl rfl ?_
    refine x_icmp_ge 36 dX7_withTrack_9 (by decide) (fun _ => ?_) (fun _ => ?_)
    · exact x_sub (x_le_n (x_le_s rfl (x_le_n x_le_e))) (hk _ _)
    · refine x_iload_n dX7_withTrack_12 rfl rfl ?_
      refine x_aload_n dX7_withTrack_13 rfl rfl ?_
      refine x_getR dX7_withTrack_14 lk_RX7_22 rfl rfl ?_
      refine x_iload_n dX7_withTrack_17 rfl rfl ?_
      refine x_iald dX7_withTrack_18 rfl ?_
      refine x_iconst (v := -1) dX7_withTrack_19 rfl ?_
      refine x_jn 28 (fun (v1 : Int32) => [some (.ref 0), none, some (.int w2)]) (fun (v1 : Int32) => [.int v1, .int w1]) (fun v1 s2 => ?_) (fun j3 hj3 => ?_)
      · refine x_iadd dX7_withTrack_28 ?_
        refine x_istore_nB dX7_withTrack_29 rfl rfl rfl (fun x4 => ?_)
        refine x_iinc dX7_withTrack_30 rfl rfl rfl rfl ?_
        refine x_goto 4 dX7_withTrack_33 (by decide) ?_
        exact x_sub (x_le_s rfl (x_le_s rfl (x_le_s rfl x_le_e))) (ih _ _ _)
      · refine x_icmp_ne 27 dX7_withTrack_20 (by decide) (fun _ => ?_) (fun _ => ?_)
        · refine x_iconst (v := 1) dX7_withTrack_27 rfl ?_
          exact x_sub (x_le_s rfl (x_le_n (x_le_s rfl x_le_e))) (hj3 1 _)
        · refine x_iconst (v := 0) dX7_withTrack_23 rfl ?_
          refine x_goto 28 dX7_withTrack_24 (by decide) ?_
          exact x_sub (x_le_s rfl (x_le_n (x_le_s rfl x_le_e))) (hj3 0 _)

theorem c_X7_withTrack (σ : xSt) : CON κi yX7_withTrack m_X7_withTrack false 0 shM [.ref 0] σ (f_X7_withTrack σ) := by
  refine x_con (L := [some (.ref 0), none, none]) (by decide) rfl rfl rfl ?_
  unfold f_X7_withTrack
  refine x_iconst (v := 0) dX7_withTrack_0 rfl ?_
  refine x_istore_n dX7_withTrack_1 rfl rfl rfl ?_
  refine x_iconst (v := 0) dX7_withTrack_2 rfl ?_
  refine x_istore_n dX7_withTrack_3 rfl rfl rfl ?_
  refine x_sub (x_le_s rfl (x_le_s rfl (x_le_s rfl x_le_e))) (t_X7_withTrack_4 _ (fun e5 s6 => ?_) FU _ _ _)
  refine x_iload_n dX7_withTrack_36 rfl rfl ?_
  exact x_iret dX7_withTrack_37 rfl

theorem t_X7_clearNow_7 (w1 : Int32) (k : xSt → Option (Int32 × xSt)) (hk : ∀ (σ : xSt), XP κi false m_X7_clearNow 1 shM 26 [none, some (.int w1), none] [] σ (k  σ)) : ∀ (n : Nat) (w2 : Int32) (σ : xSt), XP κi false m_X7_clearNow 1 shM 7 [some (.ref 0), some (.int w1), some (.int w2)] [] σ (f_X7_clearNow_7 k n w2 σ) := by
  intro n
  induction n with
  | zero => intro w2 σ; exact x_none
  | succ n ih =>
    intro w2 σ
    rw [f_X7_clearNow_7]
    refine x_iload_n dX7_clearNow_7 rfl rfl ?_
    refine x_bipush (v := 14) dX7_clearNow_8 rfl ?_
    refine x_icmp_ge 26 dX7_clearNow_10 (by decide) (fun _ => ?_) (fun _ => ?_)
    · exact x_sub (x_le_n (x_le_s rfl (x_le_n x_le_e))) (hk  _)
    · refine x_aload_n dX7_clearNow_13 rfl rfl ?_
      refine x_getR dX7_clearNow_14 lk_RX7_22 rfl rfl ?_
      refine x_iload_n dX7_clearNow_17 rfl rfl ?_
      refine x_iconst (v := -1) dX7_clearNow_18 rfl ?_
      refine x_iastB dX7_clearNow_19 rfl (fun s3 => ?_)
      refine x_iinc dX7_clearNow_20 rfl rfl rfl rfl ?_
      refine x_goto 7 dX7_clearNow_23 (by decide) ?_
      exact x_sub (x_le_s rfl (x_le_s rfl (x_le_s rfl x_le_e))) (ih _ _)

theorem c_X7_clearNow (σ : xSt) : CON κi yX7_clearNow m_X7_clearNow false 1 shM [.ref 0] σ (f_X7_clearNow σ) := by
  refine x_con (L := [some (.ref 0), none, none]) (by decide) rfl rfl rfl ?_
  unfold f_X7_clearNow
  refine x_aload_n dX7_clearNow_0 rfl rfl ?_
  refine x_callV0i dX7_clearNow_1 lc_RX7_275 (c_X7_withTrack _) rfl rfl rfl rfl rfl (fun r1 s2 => ?_)
  refine x_istore_n dX7_clearNow_4 rfl rfl rfl ?_
  refine x_iconst (v := 0) dX7_clearNow_5 rfl ?_
  refine x_istore_n dX7_clearNow_6 rfl rfl rfl ?_
  refine x_sub (x_le_s rfl (x_le_s rfl (x_le_s rfl x_le_e))) (t_X7_clearNow_7 _ _ (fun  s4 => ?_) FU _ _)
  refine x_iload_n dX7_clearNow_26 rfl rfl ?_
  exact x_iret dX7_clearNow_27 rfl

theorem c_X7_isMet (a1 : Int32) (a2 : Int32) (σ : xSt) : CON κi yX7_isMet m_X7_isMet false 0 shM [.ref 0, .int a1, .int a2] σ (f_X7_isMet a1 a2 σ) := by
  refine x_con (L := [some (.ref 0), some (.int a1), some (.int a2)]) (by decide) rfl rfl rfl ?_
  unfold f_X7_isMet
  refine x_aload_n dX7_isMet_0 rfl rfl ?_
  refine x_getR dX7_isMet_1 lk_RX7_13 rfl rfl ?_
  refine x_iload_n dX7_isMet_4 rfl rfl ?_
  refine x_iald dX7_isMet_5 rfl ?_
  refine x_aload_n dX7_isMet_6 rfl rfl ?_
  refine x_getR dX7_isMet_7 lk_RX7_13 rfl rfl ?_
  refine x_iload_n dX7_isMet_10 rfl rfl ?_
  refine x_iald dX7_isMet_11 rfl ?_
  refine x_jn 50 (fun (v4 : Int32) => [none, none, none]) (fun (v4 : Int32) => [.int v4]) (fun v4 s5 => ?_) (fun j6 hj6 => ?_)
  · exact x_zret dX7_isMet_50 rfl
  · refine x_jn 49 (fun (v7 : Unit) => [none, none, none]) (fun (v7 : Unit) => []) (fun v7 s8 => ?_) (fun j9 hj9 => ?_)
    · refine x_iconst (v := 0) dX7_isMet_49 rfl ?_
      exact x_sub (x_le_n (x_le_n (x_le_n x_le_e))) (hj6 0 _)
    · refine x_icmp_eq 49 dX7_isMet_12 (by decide) (fun _ => ?_) (fun _ => ?_)
      · exact x_sub (x_le_n (x_le_n (x_le_n x_le_e))) (hj9 () _)
      · refine x_aload_n dX7_isMet_15 rfl rfl ?_
        refine x_getR dX7_isMet_16 lk_RX7_16 rfl rfl ?_
        refine x_iload_n dX7_isMet_19 rfl rfl ?_
        refine x_iald dX7_isMet_20 rfl ?_
        refine x_aload_n dX7_isMet_21 rfl rfl ?_
        refine x_getR dX7_isMet_22 lk_RX7_19 rfl rfl ?_
        refine x_iload_n dX7_isMet_25 rfl rfl ?_
        refine x_iald dX7_isMet_26 rfl ?_
        refine x_icmp_gt 49 dX7_isMet_27 (by decide) (fun _ => ?_) (fun _ => ?_)
        · exact x_sub (x_le_n (x_le_n (x_le_n x_le_e))) (hj9 () _)
        · refine x_aload_n dX7_isMet_30 rfl rfl ?_
          refine x_getR dX7_isMet_31 lk_RX7_16 rfl rfl ?_
          refine x_iload_n dX7_isMet_34 rfl rfl ?_
          refine x_iald dX7_isMet_35 rfl ?_
          refine x_aload_n dX7_isMet_36 rfl rfl ?_
          refine x_getR dX7_isMet_37 lk_RX7_19 rfl rfl ?_
          refine x_iload_n dX7_isMet_40 rfl rfl ?_
          refine x_iald dX7_isMet_41 rfl ?_
          refine x_icmp_gt 49 dX7_isMet_42 (by decide) (fun _ => ?_) (fun _ => ?_)
          · exact x_sub (x_le_n (x_le_n (x_le_n x_le_e))) (hj9 () _)
          · refine x_iconst (v := 1) dX7_isMet_45 rfl ?_
            refine x_goto 50 dX7_isMet_46 (by decide) ?_
            exact x_sub (x_le_n (x_le_n (x_le_n x_le_e))) (hj6 1 _)

theorem t_X7_mayCome_19 (w1 : Int32) (w2 : Int32) (k : Int32 → xSt → Option (Int32 × xSt)) (hk : ∀ (w3 : Int32) (σ : xSt), XP κi false m_X7_mayCome 1 shM 111 [none, none, none, some (.int w3), none] [] σ (k w3 σ)) : ∀ (n : Nat) (w3 : Int32) (w4 : Int32) (σ : xSt), XP κi false m_X7_mayCome 1 shM 19 [some (.ref 0), some (.int w1), some (.int w2), some (.int w3), some (.int w4)] [] σ (f_X7_mayCome_19 w1 w2 k n w3 w4 σ) := by
  intro n
  induction n with
  | zero => intro w3 w4 σ; exact x_none
  | succ n ih =>
    intro w3 w4 σ
    rw [f_X7_mayCome_19]
    refine x_iload dX7_mayCome_19 rfl ?_
    refine x_aload_n dX7_mayCome_21 rfl rfl ?_
    refine x_getI dX7_mayCome_22 lk_RX7_130 rfl rfl ?_
    refine x_icmp_ge 111 dX7_mayCome_25 (by decide) (fun _ => ?_) (fun _ => ?_)
    · exact x_sub (x_le_n (x_le_n (x_le_n (x_le_s rfl (x_le_n x_le_e))))) (hk _ _)
    · refine x_iload_n dX7_mayCome_28 rfl rfl ?_
      refine x_jn 58 (fun (v21 : Int32) => [some (.ref 0), some (.int w1), some (.int w2), none, some (.int w4)]) (fun (v21 : Int32) => [.int v21]) (fun v21 s22 => ?_) (fun j23 hj23 => ?_)
      · refine x_istore_n dX7_mayCome_58 rfl rfl rfl ?_
        refine x_iload_n dX7_mayCome_59 rfl rfl ?_
        refine x_jn 104 (fun (v37 : Int32) => [some (.ref 0), some (.int w1), some (.int w2), none, some (.int w4)]) (fun (v37 : Int32) => [.int v37]) (fun v37 s38 => ?_) (fun j39 hj39 => ?_)
        · refine x_istore_n dX7_mayCome_104 rfl rfl rfl ?_
          refine x_iinc dX7_mayCome_105 rfl rfl rfl rfl ?_
          refine x_goto 19 dX7_mayCome_108 (by decide) ?_
          exact x_sub (x_le_s rfl (x_le_s rfl (x_le_s rfl (x_le_s rfl (x_le_s rfl x_le_e))))) (ih _ _ _)
        · refine x_jn 103 (fun (v45 : Unit) => [some (.ref 0), some (.int w1), some (.int w2), none, some (.int w4)]) (fun (v45 : Unit) => []) (fun v45 s46 => ?_) (fun j47 hj47 => ?_)
          · refine x_iconst (v := 0) dX7_mayCome_103 rfl ?_
            exact x_sub (x_le_s rfl (x_le_s rfl (x_le_s rfl (x_le_n (x_le_s rfl x_le_e))))) (hj39 0 _)
          · refine x_if_eq 103 dX7_mayCome_60 (by decide) (fun _ => ?_) (fun _ => ?_)
            · exact x_sub (x_le_s rfl (x_le_s rfl (x_le_s rfl (x_le_n (x_le_s rfl x_le_e))))) (hj47 () _)
            · refine x_aload_n dX7_mayCome_63 rfl rfl ?_
              refine x_getR dX7_mayCome_64 lk_RX7_25 rfl rfl ?_
              refine x_iload dX7_mayCome_67 rfl ?_
              refine x_iald dX7_mayCome_69 rfl ?_
              refine x_iload_n dX7_mayCome_70 rfl rfl ?_
              refine x_callS2i dX7_mayCome_71 lc_RX7_43 (c_X7_isBit _ _ _) rfl rfl (fun r48 s49 => ?_)
              refine x_jn 99 (fun (v50 : Unit) => [some (.ref 0), some (.int w1), some (.int w2), none, some (.int w4)]) (fun (v50 : Unit) => []) (fun v50 s51 => ?_) (fun j52 hj52 => ?_)
              · refine x_iconst (v := 1) dX7_mayCome_99 rfl ?_
                refine x_goto 104 dX7_mayCome_100 (by decide) ?_
                exact x_sub (x_le_s rfl (x_le_s rfl (x_le_s rfl (x_le_n (x_le_s rfl x_le_e))))) (hj39 1 _)
              · refine x_if_eq 99 dX7_mayCome_74 (by decide) (fun _ => ?_) (fun _ => ?_)
                · exact x_sub (x_le_s rfl (x_le_s rfl (x_le_s rfl (x_le_n (x_le_s rfl x_le_e))))) (hj52 () _)
                · refine x_aload_n dX7_mayCome_77 rfl rfl ?_
                  refine x_getR dX7_mayCome_78 lk_RX7_22 rfl rfl ?_
                  refine x_iload dX7_mayCome_81 rfl ?_
                  refine x_iald dX7_mayCome_83 rfl ?_
                  refine x_iconst (v := -1) dX7_mayCome_84 rfl ?_
                  refine x_icmp_eq 103 dX7_mayCome_85 (by decide) (fun _ => ?_) (fun _ => ?_)
                  · exact x_sub (x_le_s rfl (x_le_s rfl (x_le_s rfl (x_le_n (x_le_s rfl x_le_e))))) (hj47 () _)
                  · refine x_aload_n dX7_mayCome_88 rfl rfl ?_
                    refine x_getR dX7_mayCome_89 lk_RX7_22 rfl rfl ?_
                    refine x_iload dX7_mayCome_92 rfl ?_
                    refine x_iald dX7_mayCome_94 rfl ?_
                    refine x_iload_n dX7_mayCome_95 rfl rfl ?_
                    refine x_icmp_ge 103 dX7_mayCome_96 (by decide) (fun _ => ?_) (fun _ => ?_)
                    · exact x_sub (x_le_s rfl (x_le_s rfl (x_le_s rfl (x_le_n (x_le_s rfl x_le_e))))) (hj47 () _)
                    · exact x_sub (x_le_s rfl (x_le_s rfl (x_le_s rfl (x_le_n (x_le_s rfl x_le_e))))) (hj52 () _)
      · refine x_jn 57 (fun (v60 : Unit) => [some (.ref 0), some (.int w1), some (.int w2), none, some (.int w4)]) (fun (v60 : Unit) => []) (fun v60 s61 => ?_) (fun j62 hj62 => ?_)
        · refine x_iconst (v := 0) dX7_mayCome_57 rfl ?_
          exact x_sub (x_le_s rfl (x_le_s rfl (x_le_s rfl (x_le_n (x_le_s rfl x_le_e))))) (hj23 0 _)
        · refine x_if_eq 57 dX7_mayCome_29 (by decide) (fun _ => ?_) (fun _ => ?_)
          · exact x_sub (x_le_s rfl (x_le_s rfl (x_le_s rfl (x_le_n (x_le_s rfl x_le_e))))) (hj62 () _)
          · refine x_aload_n dX7_mayCome_32 rfl rfl ?_
            refine x_getR dX7_mayCome_33 lk_RX7_22 rfl rfl ?_
            refine x_iload dX7_mayCome_36 rfl ?_
            refine x_iald dX7_mayCome_38 rfl ?_
            refine x_iload_n dX7_mayCome_39 rfl rfl ?_
            refine x_jn 53 (fun (v65 : Unit) => [some (.ref 0), some (.int w1), some (.int w2), none, some (.int w4)]) (fun (v65 : Unit) => []) (fun v65 s66 => ?_) (fun j67 hj67 => ?_)
            · refine x_iconst (v := 1) dX7_mayCome_53 rfl ?_
              refine x_goto 58 dX7_mayCome_54 (by decide) ?_
              exact x_sub (x_le_s rfl (x_le_s rfl (x_le_s rfl (x_le_n (x_le_s rfl x_le_e))))) (hj23 1 _)
            · refine x_icmp_ne 53 dX7_mayCome_40 (by decide) (fun _ => ?_) (fun _ => ?_)
              · exact x_sub (x_le_s rfl (x_le_s rfl (x_le_s rfl (x_le_n (x_le_s rfl x_le_e))))) (hj67 () _)
              · refine x_aload_n dX7_mayCome_43 rfl rfl ?_
                refine x_iload dX7_mayCome_44 rfl ?_
                refine x_iload_n dX7_mayCome_46 rfl rfl ?_
                refine x_callV2i dX7_mayCome_47 lc_RX7_179 (c_X7_isMet _ _ _) rfl rfl rfl rfl rfl (fun r68 s69 => ?_)
                refine x_if_ne 57 dX7_mayCome_50 (by decide) (fun _ => ?_) (fun _ => ?_)
                · exact x_sub (x_le_s rfl (x_le_s rfl (x_le_s rfl (x_le_n (x_le_s rfl x_le_e))))) (hj62 () _)
                · exact x_sub (x_le_s rfl (x_le_s rfl (x_le_s rfl (x_le_n (x_le_s rfl x_le_e))))) (hj67 () _)

theorem c_X7_mayCome (a1 : Int32) (a2 : Int32) (σ : xSt) : CON κi yX7_mayCome m_X7_mayCome false 1 shM [.ref 0, .int a1, .int a2] σ (f_X7_mayCome a1 a2 σ) := by
  refine x_con (L := [some (.ref 0), some (.int a1), some (.int a2), none, none]) (by decide) rfl rfl rfl ?_
  unfold f_X7_mayCome
  refine x_aload_n dX7_mayCome_0 rfl rfl ?_
  refine x_getR dX7_mayCome_1 lk_RX7_22 rfl rfl ?_
  refine x_iload_n dX7_mayCome_4 rfl rfl ?_
  refine x_iald dX7_mayCome_5 rfl ?_
  refine x_iconst (v := -1) dX7_mayCome_6 rfl ?_
  refine x_jn 15 (fun (v1 : Int32) => [some (.ref 0), some (.int a1), some (.int a2), none, none]) (fun (v1 : Int32) => [.int v1]) (fun v1 s2 => ?_) (fun j3 hj3 => ?_)
  · refine x_istore_n dX7_mayCome_15 rfl rfl rfl ?_
    refine x_iconst (v := 0) dX7_mayCome_16 rfl ?_
    refine x_istore dX7_mayCome_17 rfl rfl ?_
    refine x_sub (x_le_s rfl (x_le_s rfl (x_le_s rfl (x_le_s rfl (x_le_s rfl x_le_e))))) (t_X7_mayCome_19 _ _ _ (fun e70 s71 => ?_) FU _ _ _)
    refine x_iload_n dX7_mayCome_111 rfl rfl ?_
    exact x_zret dX7_mayCome_112 rfl
  · refine x_icmp_ne 14 dX7_mayCome_7 (by decide) (fun _ => ?_) (fun _ => ?_)
    · refine x_iconst (v := 0) dX7_mayCome_14 rfl ?_
      exact x_sub (x_le_s rfl (x_le_s rfl (x_le_s rfl (x_le_n (x_le_n x_le_e))))) (hj3 0 _)
    · refine x_iconst (v := 1) dX7_mayCome_10 rfl ?_
      refine x_goto 15 dX7_mayCome_11 (by decide) ?_
      exact x_sub (x_le_s rfl (x_le_s rfl (x_le_s rfl (x_le_n (x_le_n x_le_e))))) (hj3 1 _)

theorem t_X7_nextFor_4 (w1 : Int32) (k : Int32 → xSt → Option (Int32 × xSt)) (hk : ∀ (w2 : Int32) (σ : xSt), XP κi false m_X7_nextFor 2 shM 65 [none, none, some (.int w2), none, none] [] σ (k w2 σ)) : ∀ (n : Nat) (w2 : Int32) (w3 : Int32) (σ : xSt), XP κi false m_X7_nextFor 2 shM 4 [some (.ref 0), some (.int w1), some (.int w2), some (.int w3), none] [] σ (f_X7_nextFor_4 w1 k n w2 w3 σ) := by
  intro n
  induction n with
  | zero => intro w2 w3 σ; exact x_none
  | succ n ih =>
    intro w2 w3 σ
    rw [f_X7_nextFor_4]
    refine x_iload_n dX7_nextFor_4 rfl rfl ?_
    refine x_aload_n dX7_nextFor_5 rfl rfl ?_
    refine x_getI dX7_nextFor_6 lk_RX7_130 rfl rfl ?_
    refine x_icmp_ge 65 dX7_nextFor_9 (by decide) (fun _ => ?_) (fun _ => ?_)
    · exact x_sub (x_le_n (x_le_n (x_le_s rfl (x_le_n (x_le_n x_le_e))))) (hk _ _)
    · refine x_iload_n dX7_nextFor_12 rfl rfl ?_
      refine x_iconst (v := -1) dX7_nextFor_13 rfl ?_
      refine x_jn 37 (fun (v4 : Int32) => [some (.ref 0), some (.int w1), some (.int w2), some (.int w3), none]) (fun (v4 : Int32) => [.int v4]) (fun v4 s5 => ?_) (fun j6 hj6 => ?_)
      · refine x_istore dX7_nextFor_37 rfl rfl ?_
        refine x_aload_n dX7_nextFor_39 rfl rfl ?_
        refine x_iload_n dX7_nextFor_40 rfl rfl ?_
        refine x_iload_n dX7_nextFor_41 rfl rfl ?_
        refine x_callV2i dX7_nextFor_42 lc_RX7_281 (c_X7_mayCome _ _ _) rfl rfl rfl rfl rfl (fun r7 s8 => ?_)
        refine x_jn 58 (fun (v12 : Int32) => [some (.ref 0), some (.int w1), none, some (.int w3), none]) (fun (v12 : Int32) => [.int v12]) (fun v12 s13 => ?_) (fun j14 hj14 => ?_)
        · refine x_istore_n dX7_nextFor_58 rfl rfl rfl ?_
          refine x_iinc dX7_nextFor_59 rfl rfl rfl rfl ?_
          refine x_goto 4 dX7_nextFor_62 (by decide) ?_
          exact x_sub (x_le_s rfl (x_le_s rfl (x_le_s rfl (x_le_s rfl (x_le_n x_le_e))))) (ih _ _ _)
        · refine x_jn 57 (fun (v15 : Unit) => [some (.ref 0), some (.int w1), some (.int w2), some (.int w3), none]) (fun (v15 : Unit) => []) (fun v15 s16 => ?_) (fun j17 hj17 => ?_)
          · refine x_iload_n dX7_nextFor_57 rfl rfl ?_
            exact x_sub (x_le_s rfl (x_le_s rfl (x_le_n (x_le_s rfl (x_le_n x_le_e))))) (hj14 w2 _)
          · refine x_if_eq 57 dX7_nextFor_45 (by decide) (fun _ => ?_) (fun _ => ?_)
            · exact x_sub (x_le_s rfl (x_le_s rfl (x_le_s rfl (x_le_s rfl (x_le_n x_le_e))))) (hj17 () _)
            · refine x_iload dX7_nextFor_48 rfl ?_
              refine x_if_eq 57 dX7_nextFor_50 (by decide) (fun _ => ?_) (fun _ => ?_)
              · exact x_sub (x_le_s rfl (x_le_s rfl (x_le_s rfl (x_le_s rfl (x_le_n x_le_e))))) (hj17 () _)
              · refine x_iload_n dX7_nextFor_53 rfl rfl ?_
                refine x_goto 58 dX7_nextFor_54 (by decide) ?_
                exact x_sub (x_le_s rfl (x_le_s rfl (x_le_n (x_le_s rfl (x_le_n x_le_e))))) (hj14 w3 _)
      · refine x_jn 32 (fun (v18 : Unit) => [some (.ref 0), some (.int w1), some (.int w2), some (.int w3), none]) (fun (v18 : Unit) => []) (fun v18 s19 => ?_) (fun j20 hj20 => ?_)
        · refine x_iconst (v := 1) dX7_nextFor_32 rfl ?_
          refine x_goto 37 dX7_nextFor_33 (by decide) ?_
          exact x_sub (x_le_s rfl (x_le_s rfl (x_le_s rfl (x_le_s rfl (x_le_n x_le_e))))) (hj6 1 _)
        · refine x_icmp_eq 32 dX7_nextFor_14 (by decide) (fun _ => ?_) (fun _ => ?_)
          · exact x_sub (x_le_s rfl (x_le_s rfl (x_le_s rfl (x_le_s rfl (x_le_n x_le_e))))) (hj20 () _)
          · refine x_aload_n dX7_nextFor_17 rfl rfl ?_
            refine x_getR dX7_nextFor_18 lk_RX7_16 rfl rfl ?_
            refine x_iload_n dX7_nextFor_21 rfl rfl ?_
            refine x_iald dX7_nextFor_22 rfl ?_
            refine x_aload_n dX7_nextFor_23 rfl rfl ?_
            refine x_getR dX7_nextFor_24 lk_RX7_16 rfl rfl ?_
            refine x_iload_n dX7_nextFor_27 rfl rfl ?_
            refine x_iald dX7_nextFor_28 rfl ?_
            refine x_icmp_ge 36 dX7_nextFor_29 (by decide) (fun _ => ?_) (fun _ => ?_)
            · refine x_iconst (v := 0) dX7_nextFor_36 rfl ?_
              exact x_sub (x_le_s rfl (x_le_s rfl (x_le_s rfl (x_le_s rfl (x_le_n x_le_e))))) (hj6 0 _)
            · exact x_sub (x_le_s rfl (x_le_s rfl (x_le_s rfl (x_le_s rfl (x_le_n x_le_e))))) (hj20 () _)

theorem c_X7_nextFor (a1 : Int32) (σ : xSt) : CON κi yX7_nextFor m_X7_nextFor false 2 shM [.ref 0, .int a1] σ (f_X7_nextFor a1 σ) := by
  refine x_con (L := [some (.ref 0), some (.int a1), none, none, none]) (by decide) rfl rfl rfl ?_
  unfold f_X7_nextFor
  refine x_iconst (v := -1) dX7_nextFor_0 rfl ?_
  refine x_istore_n dX7_nextFor_1 rfl rfl rfl ?_
  refine x_iconst (v := 0) dX7_nextFor_2 rfl ?_
  refine x_istore_n dX7_nextFor_3 rfl rfl rfl ?_
  refine x_sub (x_le_s rfl (x_le_s rfl (x_le_s rfl (x_le_s rfl (x_le_n x_le_e))))) (t_X7_nextFor_4 _ _ (fun e21 s22 => ?_) FU _ _ _)
  refine x_iload_n dX7_nextFor_65 rfl rfl ?_
  exact x_iret dX7_nextFor_66 rfl

theorem t_X7_depth_4 (k : Int32 → xSt → Option (Int32 × xSt)) (hk : ∀ (w1 : Int32) (σ : xSt), XP κi false m_X7_depth 0 shM 39 [none, some (.int w1), none] [] σ (k w1 σ)) : ∀ (n : Nat) (w1 : Int32) (w2 : Int32) (σ : xSt), XP κi false m_X7_depth 0 shM 4 [some (.ref 0), some (.int w1), some (.int w2)] [] σ (f_X7_depth_4 k n w1 w2 σ) := by
  intro n
  induction n with
  | zero => intro w1 w2 σ; exact x_none
  | succ n ih =>
    intro w1 w2 σ
    rw [f_X7_depth_4]
    refine x_iload_n dX7_depth_4 rfl rfl ?_
    refine x_aload_n dX7_depth_5 rfl rfl ?_
    refine x_getI dX7_depth_6 lk_RX7_130 rfl rfl ?_
    refine x_icmp_ge 39 dX7_depth_9 (by decide) (fun _ => ?_) (fun _ => ?_)
    · exact x_sub (x_le_n (x_le_s rfl (x_le_n x_le_e))) (hk _ _)
    · refine x_aload_n dX7_depth_12 rfl rfl ?_
      refine x_getR dX7_depth_13 lk_RX7_22 rfl rfl ?_
      refine x_iload_n dX7_depth_16 rfl rfl ?_
      refine x_iald dX7_depth_17 rfl ?_
      refine x_iload_n dX7_depth_18 rfl rfl ?_
      refine x_jn 32 (fun (v1 : Int32) => [some (.ref 0), none, some (.int w2)]) (fun (v1 : Int32) => [.int v1]) (fun v1 s2 => ?_) (fun j3 hj3 => ?_)
      · refine x_istore_n dX7_depth_32 rfl rfl rfl ?_
        refine x_iinc dX7_depth_33 rfl rfl rfl rfl ?_
        refine x_goto 4 dX7_depth_36 (by decide) ?_
        exact x_sub (x_le_s rfl (x_le_s rfl (x_le_s rfl x_le_e))) (ih _ _ _)
      · refine x_icmp_le 31 dX7_depth_19 (by decide) (fun _ => ?_) (fun _ => ?_)
        · refine x_iload_n dX7_depth_31 rfl rfl ?_
          exact x_sub (x_le_s rfl (x_le_n (x_le_s rfl x_le_e))) (hj3 w1 _)
        · refine x_aload_n dX7_depth_22 rfl rfl ?_
          refine x_getR dX7_depth_23 lk_RX7_22 rfl rfl ?_
          refine x_iload_n dX7_depth_26 rfl rfl ?_
          refine x_iald dX7_depth_27 rfl ?_
          refine x_goto 32 dX7_depth_28 (by decide) ?_
          exact x_sub (x_le_s rfl (x_le_n (x_le_s rfl x_le_e))) (hj3 (σ.1 5 w2.toNatClampNeg) _)

theorem c_X7_depth (σ : xSt) : CON κi yX7_depth m_X7_depth false 0 shM [.ref 0] σ (f_X7_depth σ) := by
  refine x_con (L := [some (.ref 0), none, none]) (by decide) rfl rfl rfl ?_
  unfold f_X7_depth
  refine x_iconst (v := -1) dX7_depth_0 rfl ?_
  refine x_istore_n dX7_depth_1 rfl rfl rfl ?_
  refine x_iconst (v := 0) dX7_depth_2 rfl ?_
  refine x_istore_n dX7_depth_3 rfl rfl rfl ?_
  refine x_sub (x_le_s rfl (x_le_s rfl (x_le_s rfl x_le_e))) (t_X7_depth_4 _ (fun e4 s5 => ?_) FU _ _ _)
  refine x_iload_n dX7_depth_39 rfl rfl ?_
  refine x_iconst (v := 1) dX7_depth_40 rfl ?_
  refine x_iadd dX7_depth_41 ?_
  exact x_iret dX7_depth_42 rfl

