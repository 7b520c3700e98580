theorem c_X7_within (a0 : Int32) (a1 : Int32) (a2 : Int32) (σ : xSt) : CON κi yX7_within m_X7_within false 0 shM [.int a0, .int a1, .int a2] σ (f_X7_within a0 a1 a2 σ) := by
  refine x_con (L := [some (.int a0), some (.int a1), some (.int a2)]) (by decide) rfl rfl rfl ?_
  unfold f_X7_within
  refine x_iload_n dX7_within_0 rfl rfl ?_
  refine x_iload_n dX7_within_1 rfl rfl ?_
  refine x_jn 15 (fun (v4 : Int32) => [none, none, none]) (fun (v4 : Int32) => [.int v4]) (fun v4 s5 => ?_) (fun j6 hj6 => ?_)
  · exact x_zret dX7_within_15 rfl
  · refine x_jn 14 (fun (v7 : Unit) => [none, none, none]) (fun (v7 : Unit) => []) (fun v7 s8 => ?_) (fun j9 hj9 => ?_)
    · refine x_iconst (v := 0) dX7_within_14 rfl ?_
      exact x_sub (x_le_n (x_le_n (x_le_n x_le_e))) (hj6 0 _)
    · refine x_icmp_lt 14 dX7_within_2 (by decide) (fun _ => ?_) (fun _ => ?_)
      · exact x_sub (x_le_n (x_le_n (x_le_n x_le_e))) (hj9 () _)
      · refine x_iload_n dX7_within_5 rfl rfl ?_
        refine x_iload_n dX7_within_6 rfl rfl ?_
        refine x_icmp_gt 14 dX7_within_7 (by decide) (fun _ => ?_) (fun _ => ?_)
        · exact x_sub (x_le_n (x_le_n (x_le_n x_le_e))) (hj9 () _)
        · refine x_iconst (v := 1) dX7_within_10 rfl ?_
          refine x_goto 15 dX7_within_11 (by decide) ?_
          exact x_sub (x_le_n (x_le_n (x_le_n x_le_e))) (hj6 1 _)

theorem c_X7_isBit (a0 : Int32) (a1 : Int32) (σ : xSt) : CON κi yX7_isBit m_X7_isBit false 0 shM [.int a0, .int a1] σ (f_X7_isBit a0 a1 σ) := by
  refine x_con (L := [some (.int a0), some (.int a1)]) (by decide) rfl rfl rfl ?_
  unfold f_X7_isBit
  refine x_iload_n dX7_isBit_0 rfl rfl ?_
  refine x_iload_n dX7_isBit_1 rfl rfl ?_
  refine x_ishr dX7_isBit_2 ?_
  refine x_iconst (v := 1) dX7_isBit_3 rfl ?_
  refine x_iand dX7_isBit_4 ?_
  refine x_iconst (v := 1) dX7_isBit_5 rfl ?_
  refine x_jn 14 (fun (v1 : Int32) => [none, none]) (fun (v1 : Int32) => [.int v1]) (fun v1 s2 => ?_) (fun j3 hj3 => ?_)
  · exact x_zret dX7_isBit_14 rfl
  · refine x_icmp_ne 13 dX7_isBit_6 (by decide) (fun _ => ?_) (fun _ => ?_)
    · refine x_iconst (v := 0) dX7_isBit_13 rfl ?_
      exact x_sub (x_le_n (x_le_n x_le_e)) (hj3 0 _)
    · refine x_iconst (v := 1) dX7_isBit_9 rfl ?_
      refine x_goto 14 dX7_isBit_10 (by decide) ?_
      exact x_sub (x_le_n (x_le_n x_le_e)) (hj3 1 _)

theorem t_X7_size_4 (w0 : Int32) (k : Int32 → xSt → Option (Int32 × xSt)) (hk : ∀ (w1 : Int32) (σ : xSt), XP κi false m_X7_size 0 shM 24 [none, some (.int w1), none] [] σ (k w1 σ)) : ∀ (n : Nat) (w1 : Int32) (w2 : Int32) (σ : xSt), XP κi false m_X7_size 0 shM 4 [some (.int w0), some (.int w1), some (.int w2)] [] σ (f_X7_size_4 w0 k n w1 w2 σ) := by
  intro n
  induction n with
  | zero => intro w1 w2 σ; exact x_none
  | succ n ih =>
    intro w1 w2 σ
    rw [f_X7_size_4]
    refine x_iload_n dX7_size_4 rfl rfl ?_
    refine x_bipush (v := 16) dX7_size_5 rfl ?_
    refine x_icmp_ge 24 dX7_size_7 (by decide) (fun _ => ?_) (fun _ => ?_)
    · exact x_sub (x_le_n (x_le_s rfl (x_le_n x_le_e))) (hk _ _)
    · refine x_iload_n dX7_size_10 rfl rfl ?_
      refine x_iload_n dX7_size_11 rfl rfl ?_
      refine x_iload_n dX7_size_12 rfl rfl ?_
      refine x_ishr dX7_size_13 ?_
      refine x_iconst (v := 1) dX7_size_14 rfl ?_
      refine x_iand dX7_size_15 ?_
      refine x_iadd dX7_size_16 ?_
      refine x_istore_nB dX7_size_17 rfl rfl rfl (fun x1 => ?_)
      refine x_iinc dX7_size_18 rfl rfl rfl rfl ?_
      refine x_goto 4 dX7_size_21 (by decide) ?_
      exact x_sub (x_le_s rfl (x_le_s rfl (x_le_s rfl x_le_e))) (ih _ _ _)

theorem c_X7_size (a0 : Int32) (σ : xSt) : CON κi yX7_size m_X7_size false 0 shM [.int a0] σ (f_X7_size a0 σ) := by
  refine x_con (L := [some (.int a0), none, none]) (by decide) rfl rfl rfl ?_
  unfold f_X7_size
  refine x_iconst (v := 0) dX7_size_0 rfl ?_
  refine x_istore_n dX7_size_1 rfl rfl rfl ?_
  refine x_iconst (v := 0) dX7_size_2 rfl ?_
  refine x_istore_n dX7_size_3 rfl rfl rfl ?_
  refine x_sub (x_le_s rfl (x_le_s rfl (x_le_s rfl x_le_e))) (t_X7_size_4 _ _ (fun e2 s3 => ?_) FU _ _ _)
  refine x_iload_n dX7_size_24 rfl rfl ?_
  exact x_iret dX7_size_25 rfl

theorem t_X7_leastOf_2 (w0 : Int32) (k : Int32 → xSt → Option (Int32 × xSt)) (hk : ∀ (w1 : Int32) (σ : xSt), XP κi false m_X7_leastOf 1 shM 22 [none, some (.int w1)] [] σ (k w1 σ)) : ∀ (n : Nat) (w1 : Int32) (σ : xSt), XP κi false m_X7_leastOf 1 shM 2 [some (.int w0), some (.int w1)] [] σ (f_X7_leastOf_2 w0 k n w1 σ) := by
  intro n
  induction n with
  | zero => intro w1 σ; exact x_none
  | succ n ih =>
    intro w1 σ
    rw [f_X7_leastOf_2]
    refine x_iload_n dX7_leastOf_2 rfl rfl ?_
    refine x_bipush (v := 16) dX7_leastOf_3 rfl ?_
    refine x_icmp_ge 22 dX7_leastOf_5 (by decide) (fun _ => ?_) (fun _ => ?_)
    · exact x_sub (x_le_n (x_le_s rfl x_le_e)) (hk _ _)
    · refine x_iload_n dX7_leastOf_8 rfl rfl ?_
      refine x_iload_n dX7_leastOf_9 rfl rfl ?_
      refine x_callS2i dX7_leastOf_10 lc_RX7_43 (c_X7_isBit _ _ _) rfl rfl (fun r1 s2 => ?_)
      refine x_if_ne 22 dX7_leastOf_13 (by decide) (fun _ => ?_) (fun _ => ?_)
      · exact x_sub (x_le_n (x_le_s rfl x_le_e)) (hk _ _)
      · refine x_iinc dX7_leastOf_16 rfl rfl rfl rfl ?_
        refine x_goto 2 dX7_leastOf_19 (by decide) ?_
        exact x_sub (x_le_s rfl (x_le_s rfl x_le_e)) (ih _ _)

theorem c_X7_leastOf (a0 : Int32) (σ : xSt) : CON κi yX7_leastOf m_X7_leastOf false 1 shM [.int a0] σ (f_X7_leastOf a0 σ) := by
  refine x_con (L := [some (.int a0), none]) (by decide) rfl rfl rfl ?_
  unfold f_X7_leastOf
  refine x_iconst (v := 0) dX7_leastOf_0 rfl ?_
  refine x_istore_n dX7_leastOf_1 rfl rfl rfl ?_
  refine x_sub (x_le_s rfl (x_le_s rfl x_le_e)) (t_X7_leastOf_2 _ _ (fun e3 s4 => ?_) FU _ _)
  refine x_iload_n dX7_leastOf_22 rfl rfl ?_
  refine x_bipush (v := 16) dX7_leastOf_23 rfl ?_
  refine x_jn 33 (fun (v5 : Int32) => [none, none]) (fun (v5 : Int32) => [.int v5]) (fun v5 s6 => ?_) (fun j7 hj7 => ?_)
  · exact x_iret dX7_leastOf_33 rfl
  · refine x_icmp_ge 32 dX7_leastOf_25 (by decide) (fun _ => ?_) (fun _ => ?_)
    · refine x_iconst (v := -1) dX7_leastOf_32 rfl ?_
      exact x_sub (x_le_n (x_le_n x_le_e)) (hj7 (-1) _)
    · refine x_iload_n dX7_leastOf_28 rfl rfl ?_
      refine x_goto 33 dX7_leastOf_29 (by decide) ?_
      exact x_sub (x_le_n (x_le_n x_le_e)) (hj7 e3 _)

theorem c_X7_letter (a1 : Int32) (σ : xSt) : CON κi yX7_letter m_X7_letter false 1 shM [.ref 0, .int a1] σ (f_X7_letter a1 σ) := by
  refine x_con (L := [some (.ref 0), some (.int a1)]) (by decide) rfl rfl rfl ?_
  unfold f_X7_letter
  refine x_iload_n dX7_letter_0 rfl rfl ?_
  refine x_bipush (v := 32) dX7_letter_1 rfl ?_
  refine x_bipush (v := 126) dX7_letter_3 rfl ?_
  refine x_callS3i dX7_letter_5 lc_RX7_47 (c_X7_within _ _ _ _) rfl rfl (fun r1 s2 => ?_)
  refine x_if_ne 14 dX7_letter_8 (by decide) (fun _ => ?_) (fun _ => ?_)
  · refine x_aload_n dX7_letter_14 rfl rfl ?_
    refine x_getI dX7_letter_15 lk_RX7_51 rfl rfl ?_
    refine x_bipush (v := 20) dX7_letter_18 rfl ?_
    refine x_icmp_ne 26 dX7_letter_20 (by decide) (fun _ => ?_) (fun _ => ?_)
    · refine x_aload_n dX7_letter_26 rfl rfl ?_
      refine x_getR dX7_letter_27 lk_RX7_34 rfl rfl ?_
      refine x_aload_n dX7_letter_30 rfl rfl ?_
      refine x_getI dX7_letter_31 lk_RX7_51 rfl rfl ?_
      refine x_iload_n dX7_letter_34 rfl rfl ?_
      refine x_iastB dX7_letter_35 rfl (fun s3 => ?_)
      refine x_aload_n dX7_letter_36 rfl rfl ?_
      refine x_dup dX7_letter_37 rfl ?_
      refine x_getI dX7_letter_38 lk_RX7_51 rfl rfl ?_
      refine x_iconst (v := 1) dX7_letter_41 rfl ?_
      refine x_iadd dX7_letter_42 ?_
      refine x_putIB dX7_letter_43 lp_RX7_51 rfl rfl (fun s4 => ?_)
      refine x_aload_n dX7_letter_46 rfl rfl ?_
      refine x_getI dX7_letter_47 lk_RX7_51 rfl rfl ?_
      exact x_iret dX7_letter_50 rfl
    · refine x_bipush (v := -104) dX7_letter_23 rfl ?_
      exact x_iret dX7_letter_25 rfl
  · refine x_bipush (v := -102) dX7_letter_11 rfl ?_
    exact x_iret dX7_letter_13 rfl

theorem c_X7_blank (σ : xSt) : CON κi yX7_blank m_X7_blank false 0 shM [.ref 0] σ (f_X7_blank σ) := by
  refine x_con (L := [some (.ref 0), none]) (by decide) rfl rfl rfl ?_
  unfold f_X7_blank
  refine x_aload_n dX7_blank_0 rfl rfl ?_
  refine x_getI dX7_blank_1 lk_RX7_51 rfl rfl ?_
  refine x_istore_nB dX7_blank_4 rfl rfl rfl (fun x1 => ?_)
  refine x_aload_n dX7_blank_5 rfl rfl ?_
  refine x_iconst (v := 0) dX7_blank_6 rfl ?_
  refine x_putIB dX7_blank_7 lp_RX7_51 rfl rfl (fun s2 => ?_)
  refine x_iload_n dX7_blank_10 rfl rfl ?_
  exact x_iret dX7_blank_11 rfl

