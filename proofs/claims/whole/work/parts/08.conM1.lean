theorem t_X7_pack_36 (w1 : Int32) (k : xSt → Option (Int32 × xSt)) (hk : ∀ (σ : xSt), XP κi false m_X7_pack 3 shM 57 [some (.ref 0), some (.int w1), none] [] σ (k  σ)) : ∀ (n : Nat) (w2 : Int32) (σ : xSt), XP κi false m_X7_pack 3 shM 36 [some (.ref 0), some (.int w1), some (.int w2)] [] σ (f_X7_pack_36 w1 k n w2 σ) := by
  intro n
  induction n with
  | zero => intro w2 σ; exact x_none
  | succ n ih =>
    intro w2 σ
    rw [f_X7_pack_36]
    refine x_iload_n dX7_pack_36 rfl rfl ?_
    refine x_iconst (v := -1) dX7_pack_37 rfl ?_
    refine x_icmp_eq 57 dX7_pack_38 (by decide) (fun _ => ?_) (fun _ => ?_)
    · exact x_sub (x_le_s rfl (x_le_s rfl (x_le_n x_le_e))) (hk  _)
    · refine x_aload_n dX7_pack_41 rfl rfl ?_
      refine x_getR dX7_pack_42 lk_RX7_22 rfl rfl ?_
      refine x_iload_n dX7_pack_45 rfl rfl ?_
      refine x_iload_n dX7_pack_46 rfl rfl ?_
      refine x_iastB dX7_pack_47 rfl (fun s7 => ?_)
      refine x_aload_n dX7_pack_48 rfl rfl ?_
      refine x_iload_n dX7_pack_49 rfl rfl ?_
      refine x_callV1i dX7_pack_50 lc_RX7_284 (c_X7_nextFor _ _) rfl rfl rfl rfl rfl (fun r8 s9 => ?_)
      refine x_istore_n dX7_pack_53 rfl rfl rfl ?_
      refine x_goto 36 dX7_pack_54 (by decide) ?_
      exact x_sub (x_le_s rfl (x_le_s rfl (x_le_s rfl x_le_e))) (ih _ _)

theorem t_X7_pack_24 (k : xSt → Option (Int32 × xSt)) (hk : ∀ (σ : xSt), XP κi false m_X7_pack 3 shM 63 [some (.ref 0), none, none] [] σ (k  σ)) : ∀ (n : Nat) (w1 : Int32) (σ : xSt), XP κi false m_X7_pack 3 shM 24 [some (.ref 0), some (.int w1), none] [] σ (f_X7_pack_24 k n w1 σ) := by
  intro n
  induction n with
  | zero => intro w1 σ; exact x_none
  | succ n ih =>
    intro w1 σ
    rw [f_X7_pack_24]
    refine x_iload_n dX7_pack_24 rfl rfl ?_
    refine x_bipush (v := 14) dX7_pack_25 rfl ?_
    refine x_icmp_ge 63 dX7_pack_27 (by decide) (fun _ => ?_) (fun _ => ?_)
    · exact x_sub (x_le_s rfl (x_le_n (x_le_n x_le_e))) (hk  _)
    · refine x_aload_n dX7_pack_30 rfl rfl ?_
      refine x_iload_n dX7_pack_31 rfl rfl ?_
      refine x_callV1i dX7_pack_32 lc_RX7_284 (c_X7_nextFor _ _) rfl rfl rfl rfl rfl (fun r5 s6 => ?_)
      refine x_istore_n dX7_pack_35 rfl rfl rfl ?_
      refine x_sub (x_le_s rfl (x_le_s rfl (x_le_s rfl x_le_e))) (t_X7_pack_36 _ _ (fun  s10 => ?_) FU _ _)
      refine x_iinc dX7_pack_57 rfl rfl rfl rfl ?_
      refine x_goto 24 dX7_pack_60 (by decide) ?_
      exact x_sub (x_le_s rfl (x_le_s rfl (x_le_n x_le_e))) (ih _ _)

theorem c_X7_pack (σ : xSt) : CON κi yX7_pack m_X7_pack false 3 shM [.ref 0] σ (f_X7_pack σ) := by
  refine x_con (L := [some (.ref 0), none, none]) (by decide) rfl rfl rfl ?_
  unfold f_X7_pack
  refine x_aload_n dX7_pack_0 rfl rfl ?_
  refine x_callV0i dX7_pack_1 lc_RX7_197 (c_X7_isThere _) rfl rfl rfl rfl rfl (fun r1 s2 => ?_)
  refine x_jn 14 (fun (v14 : Unit) => [none, none, none]) (fun (v14 : Unit) => []) (fun v14 s15 => ?_) (fun j16 hj16 => ?_)
  · refine x_bipush (v := -103) dX7_pack_14 rfl ?_
    exact x_iret dX7_pack_16 rfl
  · refine x_if_eq 14 dX7_pack_4 (by decide) (fun _ => ?_) (fun _ => ?_)
    · exact x_sub (x_le_n (x_le_n (x_le_n x_le_e))) (hj16 () _)
    · refine x_aload_n dX7_pack_7 rfl rfl ?_
      refine x_getI dX7_pack_8 lk_RX7_156 rfl rfl ?_
      refine x_if_le 17 dX7_pack_11 (by decide) (fun _ => ?_) (fun _ => ?_)
      · refine x_aload_n dX7_pack_17 rfl rfl ?_
        refine x_callV0i dX7_pack_18 lc_RX7_278 (c_X7_clearNow _) rfl rfl rfl rfl rfl (fun r17 s18 => ?_)
        refine x_pop dX7_pack_21 rfl ?_
        refine x_iconst (v := 0) dX7_pack_22 rfl ?_
        refine x_istore_n dX7_pack_23 rfl rfl rfl ?_
        refine x_sub (x_le_s rfl (x_le_s rfl (x_le_n x_le_e))) (t_X7_pack_24 _ (fun  s25 => ?_) FU _ _)
        refine x_aload_n dX7_pack_63 rfl rfl ?_
        refine x_callV0i dX7_pack_64 lc_RX7_185 (c_X7_depth _) rfl rfl rfl rfl rfl (fun r26 s27 => ?_)
        exact x_iret dX7_pack_67 rfl
      · exact x_sub (x_le_n (x_le_n (x_le_n x_le_e))) (hj16 () _)

theorem c_X7_isFine (a1 : Int32) (a2 : Int32) (σ : xSt) : CON κi yX7_isFine m_X7_isFine false 1 shM [.ref 0, .int a1, .int a2] σ (f_X7_isFine a1 a2 σ) := by
  refine x_con (L := [some (.ref 0), some (.int a1), some (.int a2), none]) (by decide) rfl rfl rfl ?_
  unfold f_X7_isFine
  refine x_aload_n dX7_isFine_0 rfl rfl ?_
  refine x_getR dX7_isFine_1 lk_RX7_22 rfl rfl ?_
  refine x_iload_n dX7_isFine_4 rfl rfl ?_
  refine x_iald dX7_isFine_5 rfl ?_
  refine x_aload_n dX7_isFine_6 rfl rfl ?_
  refine x_getR dX7_isFine_7 lk_RX7_22 rfl rfl ?_
  refine x_iload_n dX7_isFine_10 rfl rfl ?_
  refine x_iald dX7_isFine_11 rfl ?_
  refine x_jn 29 (fun (v8 : Int32) => [some (.ref 0), some (.int a1), some (.int a2), none]) (fun (v8 : Int32) => [.int v8]) (fun v8 s9 => ?_) (fun j10 hj10 => ?_)
  · refine x_istore_n dX7_isFine_29 rfl rfl rfl ?_
    refine x_iload_n dX7_isFine_30 rfl rfl ?_
    refine x_jn 67 (fun (v24 : Int32) => [some (.ref 0), some (.int a1), some (.int a2), none]) (fun (v24 : Int32) => [.int v24]) (fun v24 s25 => ?_) (fun j26 hj26 => ?_)
    · refine x_istore_n dX7_isFine_67 rfl rfl rfl ?_
      refine x_iload_n dX7_isFine_68 rfl rfl ?_
      refine x_jn 105 (fun (v40 : Int32) => [none, none, none, none]) (fun (v40 : Int32) => [.int v40]) (fun v40 s41 => ?_) (fun j42 hj42 => ?_)
      · exact x_zret dX7_isFine_105 rfl
      · refine x_jn 104 (fun (v48 : Unit) => [none, none, none, none]) (fun (v48 : Unit) => []) (fun v48 s49 => ?_) (fun j50 hj50 => ?_)
        · refine x_iconst (v := 0) dX7_isFine_104 rfl ?_
          exact x_sub (x_le_n (x_le_n (x_le_n (x_le_n x_le_e)))) (hj42 0 _)
        · refine x_if_eq 104 dX7_isFine_69 (by decide) (fun _ => ?_) (fun _ => ?_)
          · exact x_sub (x_le_n (x_le_n (x_le_n (x_le_n x_le_e)))) (hj50 () _)
          · refine x_aload_n dX7_isFine_72 rfl rfl ?_
            refine x_getR dX7_isFine_73 lk_RX7_25 rfl rfl ?_
            refine x_iload_n dX7_isFine_76 rfl rfl ?_
            refine x_iald dX7_isFine_77 rfl ?_
            refine x_iload_n dX7_isFine_78 rfl rfl ?_
            refine x_callS2i dX7_isFine_79 lc_RX7_43 (c_X7_isBit _ _ _) rfl rfl (fun r51 s52 => ?_)
            refine x_jn 100 (fun (v53 : Unit) => [none, none, none, none]) (fun (v53 : Unit) => []) (fun v53 s54 => ?_) (fun j55 hj55 => ?_)
            · refine x_iconst (v := 1) dX7_isFine_100 rfl ?_
              refine x_goto 105 dX7_isFine_101 (by decide) ?_
              exact x_sub (x_le_n (x_le_n (x_le_n (x_le_n x_le_e)))) (hj42 1 _)
            · refine x_if_eq 100 dX7_isFine_82 (by decide) (fun _ => ?_) (fun _ => ?_)
              · exact x_sub (x_le_n (x_le_n (x_le_n (x_le_n x_le_e)))) (hj55 () _)
              · refine x_aload_n dX7_isFine_85 rfl rfl ?_
                refine x_getR dX7_isFine_86 lk_RX7_22 rfl rfl ?_
                refine x_iload_n dX7_isFine_89 rfl rfl ?_
                refine x_iald dX7_isFine_90 rfl ?_
                refine x_aload_n dX7_isFine_91 rfl rfl ?_
                refine x_getR dX7_isFine_92 lk_RX7_22 rfl rfl ?_
                refine x_iload_n dX7_isFine_95 rfl rfl ?_
                refine x_iald dX7_isFine_96 rfl ?_
                refine x_icmp_ge 104 dX7_isFine_97 (by decide) (fun _ => ?_) (fun _ => ?_)
                · exact x_sub (x_le_n (x_le_n (x_le_n (x_le_n x_le_e)))) (hj50 () _)
                · exact x_sub (x_le_n (x_le_n (x_le_n (x_le_n x_le_e)))) (hj55 () _)
    · refine x_jn 66 (fun (v61 : Unit) => [some (.ref 0), some (.int a1), some (.int a2), none]) (fun (v61 : Unit) => []) (fun v61 s62 => ?_) (fun j63 hj63 => ?_)
      · refine x_iconst (v := 0) dX7_isFine_66 rfl ?_
        exact x_sub (x_le_s rfl (x_le_s rfl (x_le_s rfl (x_le_n x_le_e)))) (hj26 0 _)
      · refine x_if_eq 66 dX7_isFine_31 (by decide) (fun _ => ?_) (fun _ => ?_)
        · exact x_sub (x_le_s rfl (x_le_s rfl (x_le_s rfl (x_le_n x_le_e)))) (hj63 () _)
        · refine x_aload_n dX7_isFine_34 rfl rfl ?_
          refine x_getR dX7_isFine_35 lk_RX7_25 rfl rfl ?_
          refine x_iload_n dX7_isFine_38 rfl rfl ?_
          refine x_iald dX7_isFine_39 rfl ?_
          refine x_iload_n dX7_isFine_40 rfl rfl ?_
          refine x_callS2i dX7_isFine_41 lc_RX7_43 (c_X7_isBit _ _ _) rfl rfl (fun r64 s65 => ?_)
          refine x_jn 62 (fun (v66 : Unit) => [some (.ref 0), some (.int a1), some (.int a2), none]) (fun (v66 : Unit) => []) (fun v66 s67 => ?_) (fun j68 hj68 => ?_)
          · refine x_iconst (v := 1) dX7_isFine_62 rfl ?_
            refine x_goto 67 dX7_isFine_63 (by decide) ?_
            exact x_sub (x_le_s rfl (x_le_s rfl (x_le_s rfl (x_le_n x_le_e)))) (hj26 1 _)
          · refine x_if_eq 62 dX7_isFine_44 (by decide) (fun _ => ?_) (fun _ => ?_)
            · exact x_sub (x_le_s rfl (x_le_s rfl (x_le_s rfl (x_le_n x_le_e)))) (hj68 () _)
            · refine x_aload_n dX7_isFine_47 rfl rfl ?_
              refine x_getR dX7_isFine_48 lk_RX7_22 rfl rfl ?_
              refine x_iload_n dX7_isFine_51 rfl rfl ?_
              refine x_iald dX7_isFine_52 rfl ?_
              refine x_aload_n dX7_isFine_53 rfl rfl ?_
              refine x_getR dX7_isFine_54 lk_RX7_22 rfl rfl ?_
              refine x_iload_n dX7_isFine_57 rfl rfl ?_
              refine x_iald dX7_isFine_58 rfl ?_
              refine x_icmp_ge 66 dX7_isFine_59 (by decide) (fun _ => ?_) (fun _ => ?_)
              · exact x_sub (x_le_s rfl (x_le_s rfl (x_le_s rfl (x_le_n x_le_e)))) (hj63 () _)
              · exact x_sub (x_le_s rfl (x_le_s rfl (x_le_s rfl (x_le_n x_le_e)))) (hj68 () _)
  · refine x_jn 24 (fun (v71 : Unit) => [some (.ref 0), some (.int a1), some (.int a2), none]) (fun (v71 : Unit) => []) (fun v71 s72 => ?_) (fun j73 hj73 => ?_)
    · refine x_iconst (v := 1) dX7_isFine_24 rfl ?_
      refine x_goto 29 dX7_isFine_25 (by decide) ?_
      exact x_sub (x_le_s rfl (x_le_s rfl (x_le_s rfl (x_le_n x_le_e)))) (hj10 1 _)
    · refine x_icmp_ne 24 dX7_isFine_12 (by decide) (fun _ => ?_) (fun _ => ?_)
      · exact x_sub (x_le_s rfl (x_le_s rfl (x_le_s rfl (x_le_n x_le_e)))) (hj73 () _)
      · refine x_aload_n dX7_isFine_15 rfl rfl ?_
        refine x_iload_n dX7_isFine_16 rfl rfl ?_
        refine x_iload_n dX7_isFine_17 rfl rfl ?_
        refine x_callV2i dX7_isFine_18 lc_RX7_179 (c_X7_isMet _ _ _) rfl rfl rfl rfl rfl (fun r74 s75 => ?_)
        refine x_if_ne 28 dX7_isFine_21 (by decide) (fun _ => ?_) (fun _ => ?_)
        · refine x_iconst (v := 0) dX7_isFine_28 rfl ?_
          exact x_sub (x_le_s rfl (x_le_s rfl (x_le_s rfl (x_le_n x_le_e)))) (hj10 0 _)
        · exact x_sub (x_le_s rfl (x_le_s rfl (x_le_s rfl (x_le_n x_le_e)))) (hj73 () _)

theorem t_X7_goesOn_4 (w1 : Int32) (k : Int32 → xSt → Option (Int32 × xSt)) (hk : ∀ (w2 : Int32) (σ : xSt), XP κi false m_X7_goesOn 2 shM 34 [none, none, some (.int w2), none] [] σ (k w2 σ)) : ∀ (n : Nat) (w2 : Int32) (w3 : Int32) (σ : xSt), XP κi false m_X7_goesOn 2 shM 4 [some (.ref 0), some (.int w1), some (.int w2), some (.int w3)] [] σ (f_X7_goesOn_4 w1 k n w2 w3 σ) := by
  intro n
  induction n with
  | zero => intro w2 w3 σ; exact x_none
  | succ n ih =>
    intro w2 w3 σ
    rw [f_X7_goesOn_4]
    refine x_iload_n dX7_goesOn_4 rfl rfl ?_
    refine x_iload_n dX7_goesOn_5 rfl rfl ?_
    refine x_icmp_ge 34 dX7_goesOn_6 (by decide) (fun _ => ?_) (fun _ => ?_)
    · exact x_sub (x_le_n (x_le_n (x_le_s rfl (x_le_n x_le_e)))) (hk _ _)
    · refine x_iload_n dX7_goesOn_9 rfl rfl ?_
      refine x_jn 27 (fun (v8 : Int32) => [some (.ref 0), some (.int w1), none, some (.int w3)]) (fun (v8 : Int32) => [.int v8]) (fun v8 s9 => ?_) (fun j10 hj10 => ?_)
      · refine x_istore_n dX7_goesOn_27 rfl rfl rfl ?_
        refine x_iinc dX7_goesOn_28 rfl rfl rfl rfl ?_
        refine x_goto 4 dX7_goesOn_31 (by decide) ?_
        exact x_sub (x_le_s rfl (x_le_s rfl (x_le_s rfl (x_le_s rfl x_le_e)))) (ih _ _ _)
      · refine x_jn 26 (fun (v13 : Unit) => [some (.ref 0), some (.int w1), none, some (.int w3)]) (fun (v13 : Unit) => []) (fun v13 s14 => ?_) (fun j15 hj15 => ?_)
        · refine x_iconst (v := 0) dX7_goesOn_26 rfl ?_
          exact x_sub (x_le_s rfl (x_le_s rfl (x_le_n (x_le_s rfl x_le_e)))) (hj10 0 _)
        · refine x_if_eq 26 dX7_goesOn_10 (by decide) (fun _ => ?_) (fun _ => ?_)
          · exact x_sub (x_le_s rfl (x_le_s rfl (x_le_n (x_le_s rfl x_le_e)))) (hj15 () _)
          · refine x_aload_n dX7_goesOn_13 rfl rfl ?_
            refine x_iload_n dX7_goesOn_14 rfl rfl ?_
            refine x_iload_n dX7_goesOn_15 rfl rfl ?_
            refine x_callV2i dX7_goesOn_16 lc_RX7_182 (c_X7_isFine _ _ _) rfl rfl rfl rfl rfl (fun r16 s17 => ?_)
            refine x_if_eq 26 dX7_goesOn_19 (by decide) (fun _ => ?_) (fun _ => ?_)
            · exact x_sub (x_le_s rfl (x_le_s rfl (x_le_n (x_le_s rfl x_le_e)))) (hj15 () _)
            · refine x_iconst (v := 1) dX7_goesOn_22 rfl ?_
              refine x_goto 27 dX7_goesOn_23 (by decide) ?_
              exact x_sub (x_le_s rfl (x_le_s rfl (x_le_n (x_le_s rfl x_le_e)))) (hj10 1 _)

theorem c_X7_goesOn (a1 : Int32) (σ : xSt) : CON κi yX7_goesOn m_X7_goesOn false 2 shM [.ref 0, .int a1] σ (f_X7_goesOn a1 σ) := by
  refine x_con (L := [some (.ref 0), some (.int a1), none, none]) (by decide) rfl rfl rfl ?_
  unfold f_X7_goesOn
  refine x_iconst (v := 1) dX7_goesOn_0 rfl ?_
  refine x_istore_n dX7_goesOn_1 rfl rfl rfl ?_
  refine x_iconst (v := 0) dX7_goesOn_2 rfl ?_
  refine x_istore_n dX7_goesOn_3 rfl rfl rfl ?_
  refine x_sub (x_le_s rfl (x_le_s rfl (x_le_s rfl (x_le_s rfl x_le_e)))) (t_X7_goesOn_4 _ _ (fun e18 s19 => ?_) FU _ _ _)
  refine x_iload_n dX7_goesOn_34 rfl rfl ?_
  exact x_zret dX7_goesOn_35 rfl

theorem t_X7_findPlan_29 (w1 : Int32) (w2 : Int32) (k : xSt → Option (Int32 × xSt)) (hk : ∀ (σ : xSt), XP κi false m_X7_findPlan 3 shM 60 [some (.ref 0), some (.int w1), some (.int w2)] [] σ (k  σ)) : ∀ (n : Nat) (σ : xSt), XP κi false m_X7_findPlan 3 shM 29 [some (.ref 0), some (.int w1), some (.int w2)] [] σ (f_X7_findPlan_29 w1 w2 k n  σ) := by
  intro n
  induction n with
  | zero => intro  σ; exact x_none
  | succ n ih =>
    intro  σ
    rw [f_X7_findPlan_29]
    refine x_aload_n dX7_findPlan_29 rfl rfl ?_
    refine x_getR dX7_findPlan_30 lk_RX7_22 rfl rfl ?_
    refine x_iload_n dX7_findPlan_33 rfl rfl ?_
    refine x_iald dX7_findPlan_34 rfl ?_
    refine x_iload_n dX7_findPlan_35 rfl rfl ?_
    refine x_icmp_ge 60 dX7_findPlan_36 (by decide) (fun _ => ?_) (fun _ => ?_)
    · exact x_sub (x_le_s rfl (x_le_s rfl (x_le_s rfl x_le_e))) (hk  _)
    · refine x_aload_n dX7_findPlan_39 rfl rfl ?_
      refine x_iload_n dX7_findPlan_40 rfl rfl ?_
      refine x_callV1i dX7_findPlan_41 lc_RX7_287 (c_X7_goesOn _ _) rfl rfl rfl rfl rfl (fun r4 s5 => ?_)
      refine x_if_ne 60 dX7_findPlan_44 (by decide) (fun _ => ?_) (fun _ => ?_)
      · exact x_sub (x_le_s rfl (x_le_s rfl (x_le_s rfl x_le_e))) (hk  _)
      · refine x_aload_n dX7_findPlan_47 rfl rfl ?_
        refine x_getR dX7_findPlan_48 lk_RX7_22 rfl rfl ?_
        refine x_iload_n dX7_findPlan_51 rfl rfl ?_
        refine x_dup2 dX7_findPlan_52 rfl rfl ?_
        refine x_iald dX7_findPlan_53 rfl ?_
        refine x_iconst (v := 1) dX7_findPlan_54 rfl ?_
        refine x_iadd dX7_findPlan_55 ?_
        refine x_iastB dX7_findPlan_56 rfl (fun s6 => ?_)
        refine x_goto 29 dX7_findPlan_57 (by decide) ?_
        exact x_sub (x_le_s rfl (x_le_s rfl (x_le_s rfl x_le_e))) (ih  _)

theorem t_X7_findPlan_7 (w1 : Int32) (k : Int32 → xSt → Option (Int32 × xSt)) (hk : ∀ (w2 : Int32) (σ : xSt), XP κi false m_X7_findPlan 3 shM 89 [some (.ref 0), none, some (.int w2)] [] σ (k w2 σ)) : ∀ (n : Nat) (w2 : Int32) (σ : xSt), XP κi false m_X7_findPlan 3 shM 7 [some (.ref 0), some (.int w1), some (.int w2)] [] σ (f_X7_findPlan_7 w1 k n w2 σ) := by
  intro n
  induction n with
  | zero => intro w2 σ; exact x_none
  | succ n ih =>
    intro w2 σ
    rw [f_X7_findPlan_7]
    refine x_iload_n dX7_findPlan_7 rfl rfl ?_
    refine x_if_lt 89 dX7_findPlan_8 (by decide) (fun _ => ?_) (fun _ => ?_)
    · exact x_sub (x_le_s rfl (x_le_n (x_le_s rfl x_le_e))) (hk _ _)
    · refine x_iload_n dX7_findPlan_11 rfl rfl ?_
      refine x_aload_n dX7_findPlan_12 rfl rfl ?_
      refine x_getI dX7_findPlan_13 lk_RX7_130 rfl rfl ?_
      refine x_icmp_ge 89 dX7_findPlan_16 (by decide) (fun _ => ?_) (fun _ => ?_)
      · exact x_sub (x_le_s rfl (x_le_n (x_le_s rfl x_le_e))) (hk _ _)
      · refine x_aload_n dX7_findPlan_19 rfl rfl ?_
        refine x_getR dX7_findPlan_20 lk_RX7_22 rfl rfl ?_
        refine x_iload_n dX7_findPlan_23 rfl rfl ?_
        refine x_dup2 dX7_findPlan_24 rfl rfl ?_
        refine x_iald dX7_findPlan_25 rfl ?_
        refine x_iconst (v := 1) dX7_findPlan_26 rfl ?_
        refine x_iadd dX7_findPlan_27 ?_
        refine x_iastB dX7_findPlan_28 rfl (fun s3 => ?_)
        refine x_sub (x_le_s rfl (x_le_s rfl (x_le_s rfl x_le_e))) (t_X7_findPlan_29 _ _ _ (fun  s7 => ?_) FU  _)
        refine x_aload_n dX7_findPlan_60 rfl rfl ?_
        refine x_getR dX7_findPlan_61 lk_RX7_22 rfl rfl ?_
        refine x_iload_n dX7_findPlan_64 rfl rfl ?_
        refine x_iald dX7_findPlan_65 rfl ?_
        refine x_iload_n dX7_findPlan_66 rfl rfl ?_
        refine x_icmp_ge 76 dX7_findPlan_67 (by decide) (fun _ => ?_) (fun _ => ?_)
        · refine x_aload_n dX7_findPlan_76 rfl rfl ?_
          refine x_getR dX7_findPlan_77 lk_RX7_22 rfl rfl ?_
          refine x_iload_n dX7_findPlan_80 rfl rfl ?_
          refine x_iconst (v := -1) dX7_findPlan_81 rfl ?_
          refine x_iastB dX7_findPlan_82 rfl (fun s8 => ?_)
          refine x_iinc dX7_findPlan_83 rfl rfl rfl rfl ?_
          refine x_goto 7 dX7_findPlan_86 (by decide) ?_
          exact x_sub (x_le_s rfl (x_le_s rfl (x_le_s rfl x_le_e))) (ih _ _)
        · refine x_iinc dX7_findPlan_70 rfl rfl rfl rfl ?_
          refine x_goto 7 dX7_findPlan_73 (by decide) ?_
          exact x_sub (x_le_s rfl (x_le_s rfl (x_le_s rfl x_le_e))) (ih _ _)

theorem c_X7_findPlan (a1 : Int32) (σ : xSt) : CON κi yX7_findPlan m_X7_findPlan false 3 shM [.ref 0, .int a1] σ (f_X7_findPlan a1 σ) := by
  refine x_con (L := [some (.ref 0), some (.int a1), none]) (by decide) rfl rfl rfl ?_
  unfold f_X7_findPlan
  refine x_aload_n dX7_findPlan_0 rfl rfl ?_
  refine x_callV0i dX7_findPlan_1 lc_RX7_278 (c_X7_clearNow _) rfl rfl rfl rfl rfl (fun r1 s2 => ?_)
  refine x_pop dX7_findPlan_4 rfl ?_
  refine x_iconst (v := 0) dX7_findPlan_5 rfl ?_
  refine x_istore_n dX7_findPlan_6 rfl rfl rfl ?_
  refine x_sub (x_le_s rfl (x_le_s rfl (x_le_s rfl x_le_e))) (t_X7_findPlan_7 _ _ (fun e9 s10 => ?_) FU _ _)
  refine x_iload_n dX7_findPlan_89 rfl rfl ?_
  refine x_aload_n dX7_findPlan_90 rfl rfl ?_
  refine x_getI dX7_findPlan_91 lk_RX7_130 rfl rfl ?_
  refine x_jn 102 (fun (v11 : Int32) => [none, none, none]) (fun (v11 : Int32) => [.int v11]) (fun v11 s12 => ?_) (fun j13 hj13 => ?_)
  · exact x_zret dX7_findPlan_102 rfl
  · refine x_icmp_ne 101 dX7_findPlan_94 (by decide) (fun _ => ?_) (fun _ => ?_)
    · refine x_iconst (v := 0) dX7_findPlan_101 rfl ?_
      exact x_sub (x_le_n (x_le_n (x_le_n x_le_e))) (hj13 0 _)
    · refine x_iconst (v := 1) dX7_findPlan_97 rfl ?_
      refine x_goto 102 dX7_findPlan_98 (by decide) ?_
      exact x_sub (x_le_n (x_le_n (x_le_n x_le_e))) (hj13 1 _)

theorem t_X7_best_47 (k : Int32 → xSt → Option (Int32 × xSt)) (hk : ∀ (w1 : Int32) (σ : xSt), XP κi false m_X7_best 4 shM 61 [none, some (.int w1)] [] σ (k w1 σ)) : ∀ (n : Nat) (w1 : Int32) (σ : xSt), XP κi false m_X7_best 4 shM 47 [some (.ref 0), some (.int w1)] [] σ (f_X7_best_47 k n w1 σ) := by
  intro n
  induction n with
  | zero => intro w1 σ; exact x_none
  | succ n ih =>
    intro w1 σ
    rw [f_X7_best_47]
    refine x_aload_n dX7_best_47 rfl rfl ?_
    refine x_iload_n dX7_best_48 rfl rfl ?_
    refine x_callV1i dX7_best_49 lc_RX7_293 (c_X7_findPlan _ _) rfl rfl rfl rfl rfl (fun r4 s5 => ?_)
    refine x_if_ne 61 dX7_best_52 (by decide) (fun _ => ?_) (fun _ => ?_)
    · exact x_sub (x_le_n (x_le_s rfl x_le_e)) (hk _ _)
    · refine x_iinc dX7_best_55 rfl rfl rfl rfl ?_
      refine x_goto 47 dX7_best_58 (by decide) ?_
      exact x_sub (x_le_s rfl (x_le_s rfl x_le_e)) (ih _ _)

theorem c_X7_best (σ : xSt) : CON κi yX7_best m_X7_best false 4 shM [.ref 0] σ (f_X7_best σ) := by
  refine x_con (L := [some (.ref 0), none]) (by decide) rfl rfl rfl ?_
  unfold f_X7_best
  refine x_aload_n dX7_best_0 rfl rfl ?_
  refine x_callV0i dX7_best_1 lc_RX7_197 (c_X7_isThere _) rfl rfl rfl rfl rfl (fun r1 s2 => ?_)
  refine x_jn 32 (fun (v8 : Unit) => [none, none]) (fun (v8 : Unit) => []) (fun v8 s9 => ?_) (fun j10 hj10 => ?_)
  · refine x_bipush (v := -103) dX7_best_32 rfl ?_
    exact x_iret dX7_best_34 rfl
  · refine x_if_eq 32 dX7_best_4 (by decide) (fun _ => ?_) (fun _ => ?_)
    · exact x_sub (x_le_n (x_le_n x_le_e)) (hj10 () _)
    · refine x_aload_n dX7_best_7 rfl rfl ?_
      refine x_getI dX7_best_8 lk_RX7_156 rfl rfl ?_
      refine x_if_gt 32 dX7_best_11 (by decide) (fun _ => ?_) (fun _ => ?_)
      · exact x_sub (x_le_n (x_le_n x_le_e)) (hj10 () _)
      · refine x_aload_n dX7_best_14 rfl rfl ?_
        refine x_getI dX7_best_15 lk_RX7_130 rfl rfl ?_
        refine x_bipush (v := 8) dX7_best_18 rfl ?_
        refine x_icmp_gt 32 dX7_best_20 (by decide) (fun _ => ?_) (fun _ => ?_)
        · exact x_sub (x_le_n (x_le_n x_le_e)) (hj10 () _)
        · refine x_aload_n dX7_best_23 rfl rfl ?_
          refine x_getI dX7_best_24 lk_RX7_290 rfl rfl ?_
          refine x_bipush (v := 20) dX7_best_27 rfl ?_
          refine x_icmp_ne 35 dX7_best_29 (by decide) (fun _ => ?_) (fun _ => ?_)
          · refine x_aload_n dX7_best_35 rfl rfl ?_
            refine x_dup dX7_best_36 rfl ?_
            refine x_getI dX7_best_37 lk_RX7_290 rfl rfl ?_
            refine x_iconst (v := 1) dX7_best_40 rfl ?_
            refine x_iadd dX7_best_41 ?_
            refine x_putIB dX7_best_42 lp_RX7_290 rfl rfl (fun s11 => ?_)
            refine x_iconst (v := 0) dX7_best_45 rfl ?_
            refine x_istore_n dX7_best_46 rfl rfl rfl ?_
            refine x_sub (x_le_s rfl (x_le_s rfl x_le_e)) (t_X7_best_47 _ (fun e14 s15 => ?_) FU _ _)
            refine x_iload_n dX7_best_61 rfl rfl ?_
            exact x_iret dX7_best_62 rfl
          · exact x_sub (x_le_n (x_le_n x_le_e)) (hj10 () _)

theorem c_X7_clear (σ : xSt) : CON κi yX7_clear m_X7_clear false 2 shM [.ref 0] σ (f_X7_clear σ) := by
  refine x_con (L := [some (.ref 0)]) (by decide) rfl rfl rfl ?_
  unfold f_X7_clear
  refine x_aload_n dX7_clear_0 rfl rfl ?_
  refine x_callV0i dX7_clear_1 lc_RX7_197 (c_X7_isThere _) rfl rfl rfl rfl rfl (fun r1 s2 => ?_)
  refine x_jn 16 (fun (v5 : Int32) => [none]) (fun (v5 : Int32) => [.int v5]) (fun v5 s6 => ?_) (fun j7 hj7 => ?_)
  · exact x_iret dX7_clear_16 rfl
  · refine x_if_eq 14 dX7_clear_4 (by decide) (fun _ => ?_) (fun _ => ?_)
    · refine x_bipush (v := -103) dX7_clear_14 rfl ?_
      exact x_sub (x_le_n x_le_e) (hj7 (-103) _)
    · refine x_aload_n dX7_clear_7 rfl rfl ?_
      refine x_callV0i dX7_clear_8 lc_RX7_278 (c_X7_clearNow _) rfl rfl rfl rfl rfl (fun r8 s9 => ?_)
      refine x_goto 16 dX7_clear_11 (by decide) ?_
      exact x_sub (x_le_n x_le_e) (hj7 r8 _)

theorem c_X7_cut (a1 : Int32) (a2 : Int32) (σ : xSt) : CON κi yX7_cut m_X7_cut false 7 shM [.ref 0, .int a1, .int a2] σ (f_X7_cut a1 a2 σ) := by
  refine x_con (L := [some (.ref 0), some (.int a1), some (.int a2)]) (by decide) rfl rfl rfl ?_
  unfold f_X7_cut
  refine x_aload_n dX7_cut_0 rfl rfl ?_
  refine x_callV0i dX7_cut_1 lc_RX7_197 (c_X7_isThere _) rfl rfl rfl rfl rfl (fun r1 s2 => ?_)
  refine x_jn 16 (fun (v10 : Unit) => [none, none, none]) (fun (v10 : Unit) => []) (fun v10 s11 => ?_) (fun j12 hj12 => ?_)
  · refine x_bipush (v := -101) dX7_cut_16 rfl ?_
    exact x_iret dX7_cut_18 rfl
  · refine x_if_eq 16 dX7_cut_4 (by decide) (fun _ => ?_) (fun _ => ?_)
    · exact x_sub (x_le_n (x_le_n (x_le_n x_le_e))) (hj12 () _)
    · refine x_iload_n dX7_cut_7 rfl rfl ?_
      refine x_iconst (v := 0) dX7_cut_8 rfl ?_
      refine x_iconst (v := 5) dX7_cut_9 rfl ?_
      refine x_callS3i dX7_cut_10 lc_RX7_47 (c_X7_within _ _ _ _) rfl rfl (fun r13 s14 => ?_)
      refine x_if_ne 19 dX7_cut_13 (by decide) (fun _ => ?_) (fun _ => ?_)
      · refine x_aload_n dX7_cut_19 rfl rfl ?_
        refine x_getI dX7_cut_20 lk_RX7_93 rfl rfl ?_
        refine x_iload_n dX7_cut_23 rfl rfl ?_
        refine x_callS2i dX7_cut_24 lc_RX7_43 (c_X7_isBit _ _ _) rfl rfl (fun r15 s16 => ?_)
        refine x_iload_n dX7_cut_27 rfl rfl ?_
        refine x_icmp_ne 34 dX7_cut_28 (by decide) (fun _ => ?_) (fun _ => ?_)
        · refine x_aload_n dX7_cut_34 rfl rfl ?_
          refine x_dup dX7_cut_35 rfl ?_
          refine x_getI dX7_cut_36 lk_RX7_93 rfl rfl ?_
          refine x_iconst (v := 1) dX7_cut_39 rfl ?_
          refine x_iload_n dX7_cut_40 rfl rfl ?_
          refine x_ishl dX7_cut_41 ?_
          refine x_ixor dX7_cut_42 ?_
          refine x_putIB dX7_cut_43 lp_RX7_93 rfl rfl (fun s17 => ?_)
          refine x_aload_n dX7_cut_46 rfl rfl ?_
          refine x_callV0v dX7_cut_47 lc_RX7_99 (c_X7_layNew _) rfl rfl rfl rfl rfl (fun r18 s19 => ?_)
          refine x_aload_n dX7_cut_50 rfl rfl ?_
          refine x_getI dX7_cut_51 lk_RX7_130 rfl rfl ?_
          exact x_iret dX7_cut_54 rfl
        · refine x_bipush (v := -103) dX7_cut_31 rfl ?_
          exact x_iret dX7_cut_33 rfl
      · exact x_sub (x_le_n (x_le_n (x_le_n x_le_e))) (hj12 () _)

theorem c_X7_isColumn (a1 : Int32) (σ : xSt) : CON κi yX7_isColumn m_X7_isColumn false 1 shM [.ref 0, .int a1] σ (f_X7_isColumn a1 σ) := by
  refine x_con (L := [some (.ref 0), some (.int a1)]) (by decide) rfl rfl rfl ?_
  unfold f_X7_isColumn
  refine x_iload_n dX7_isColumn_0 rfl rfl ?_
  refine x_iconst (v := 0) dX7_isColumn_1 rfl ?_
  refine x_aload_n dX7_isColumn_2 rfl rfl ?_
  refine x_getI dX7_isColumn_3 lk_RX7_87 rfl rfl ?_
  refine x_iconst (v := 1) dX7_isColumn_6 rfl ?_
  refine x_isub dX7_isColumn_7 ?_
  refine x_callS3i dX7_isColumn_8 lc_RX7_47 (c_X7_within _ _ _ _) rfl rfl (fun r1 s2 => ?_)
  exact x_zret dX7_isColumn_11 rfl

theorem c_X7_turn (a1 : Int32) (σ : xSt) : CON κi yX7_turn m_X7_turn false 7 shM [.ref 0, .int a1] σ (f_X7_turn a1 σ) := by
  refine x_con (L := [some (.ref 0), some (.int a1), none]) (by decide) rfl rfl rfl ?_
  unfold f_X7_turn
  refine x_aload_n dX7_turn_0 rfl rfl ?_
  refine x_iload_n dX7_turn_1 rfl rfl ?_
  refine x_callV1i dX7_turn_2 lc_RX7_242 (c_X7_isColumn _ _) rfl rfl rfl rfl rfl (fun r1 s2 => ?_)
  refine x_if_ne 11 dX7_turn_5 (by decide) (fun _ => ?_) (fun _ => ?_)
  · refine x_aload_n dX7_turn_11 rfl rfl ?_
    refine x_iload_n dX7_turn_12 rfl rfl ?_
    refine x_callV1i dX7_turn_13 lc_RX7_124 (c_X7_top _ _) rfl rfl rfl rfl rfl (fun r3 s4 => ?_)
    refine x_istore_n dX7_turn_16 rfl rfl rfl ?_
    refine x_aload_n dX7_turn_17 rfl rfl ?_
    refine x_getR dX7_turn_18 lk_RX7_7 rfl rfl ?_
    refine x_iconst (v := 2) dX7_turn_21 rfl ?_
    refine x_iload_n dX7_turn_22 rfl rfl ?_
    refine x_imul dX7_turn_23 ?_
    refine x_aload_n dX7_turn_24 rfl rfl ?_
    refine x_iload_n dX7_turn_25 rfl rfl ?_
    refine x_callV1i dX7_turn_26 lc_RX7_127 (c_X7_bottom _ _) rfl rfl rfl rfl rfl (fun r5 s6 => ?_)
    refine x_iastB dX7_turn_29 rfl (fun s7 => ?_)
    refine x_aload_n dX7_turn_30 rfl rfl ?_
    refine x_getR dX7_turn_31 lk_RX7_7 rfl rfl ?_
    refine x_iconst (v := 2) dX7_turn_34 rfl ?_
    refine x_iload_n dX7_turn_35 rfl rfl ?_
    refine x_imul dX7_turn_36 ?_
    refine x_iconst (v := 1) dX7_turn_37 rfl ?_
    refine x_iadd dX7_turn_38 ?_
    refine x_iload_n dX7_turn_39 rfl rfl ?_
    refine x_iastB dX7_turn_40 rfl (fun s8 => ?_)
    refine x_aload_n dX7_turn_41 rfl rfl ?_
    refine x_callV0v dX7_turn_42 lc_RX7_99 (c_X7_layNew _) rfl rfl rfl rfl rfl (fun r9 s10 => ?_)
    refine x_aload_n dX7_turn_45 rfl rfl ?_
    refine x_iload_n dX7_turn_46 rfl rfl ?_
    refine x_callV1i dX7_turn_47 lc_RX7_124 (c_X7_top _ _) rfl rfl rfl rfl rfl (fun r11 s12 => ?_)
    exact x_iret dX7_turn_50 rfl
  · refine x_bipush (v := -101) dX7_turn_8 rfl ?_
    exact x_iret dX7_turn_10 rfl

theorem c_X7_saidNow (a1 : Int32) (σ : xSt) : CON κi yX7_saidNow m_X7_saidNow false 8 shM [.ref 0, .int a1] σ (f_X7_saidNow a1 σ) := by
  refine x_con (L := [some (.ref 0), some (.int a1)]) (by decide) rfl rfl rfl ?_
  unfold f_X7_saidNow
  refine x_iload_n dX7_saidNow_0 rfl rfl ?_
  refine x_ite (fun c3 => ?_) (fun c3 => ?_)
  · refine x_tabI 36 dX7_saidNow_1 c3 (by decide) (by decide) rfl (by decide) ?_
    refine x_aload_n dX7_saidNow_36 rfl rfl ?_
    refine x_callV0i dX7_saidNow_37 lc_RX7_102 (c_X7_pack _) rfl rfl rfl rfl rfl (fun r1 s2 => ?_)
    exact x_iret dX7_saidNow_40 rfl
  refine x_ite (fun c6 => ?_) (fun c6 => ?_)
  · refine x_tabI 41 dX7_saidNow_1 c6 (by decide) (by decide) rfl (by decide) ?_
    refine x_aload_n dX7_saidNow_41 rfl rfl ?_
    refine x_callV0i dX7_saidNow_42 lc_RX7_105 (c_X7_best _) rfl rfl rfl rfl rfl (fun r4 s5 => ?_)
    exact x_iret dX7_saidNow_45 rfl
  refine x_ite (fun c9 => ?_) (fun c9 => ?_)
  · refine x_tabI 46 dX7_saidNow_1 c9 (by decide) (by decide) rfl (by decide) ?_
    refine x_aload_n dX7_saidNow_46 rfl rfl ?_
    refine x_callV0i dX7_saidNow_47 lc_RX7_108 (c_X7_clear _) rfl rfl rfl rfl rfl (fun r7 s8 => ?_)
    exact x_iret dX7_saidNow_50 rfl
  refine x_ite (fun c12 => ?_) (fun c12 => ?_)
  · refine x_tabI 51 dX7_saidNow_1 c12 (by decide) (by decide) rfl (by decide) ?_
    refine x_aload_n dX7_saidNow_51 rfl rfl ?_
    refine x_aload_n dX7_saidNow_52 rfl rfl ?_
    refine x_getR dX7_saidNow_53 lk_RX7_34 rfl rfl ?_
    refine x_iconst (v := 4) dX7_saidNow_56 rfl ?_
    refine x_iald dX7_saidNow_57 rfl ?_
    refine x_bipush (v := 97) dX7_saidNow_58 rfl ?_
    refine x_isub dX7_saidNow_60 ?_
    refine x_iconst (v := 1) dX7_saidNow_61 rfl ?_
    refine x_callV2i dX7_saidNow_62 lc_RX7_111 (c_X7_cut _ _ _) rfl rfl rfl rfl rfl (fun r10 s11 => ?_)
    exact x_iret dX7_saidNow_65 rfl
  refine x_ite (fun c15 => ?_) (fun c15 => ?_)
  · refine x_tabI 66 dX7_saidNow_1 c15 (by decide) (by decide) rfl (by decide) ?_
    refine x_aload_n dX7_saidNow_66 rfl rfl ?_
    refine x_aload_n dX7_saidNow_67 rfl rfl ?_
    refine x_getR dX7_saidNow_68 lk_RX7_34 rfl rfl ?_
    refine x_bipush (v := 6) dX7_saidNow_71 rfl ?_
    refine x_iald dX7_saidNow_73 rfl ?_
    refine x_bipush (v := 97) dX7_saidNow_74 rfl ?_
    refine x_isub dX7_saidNow_76 ?_
    refine x_iconst (v := 0) dX7_saidNow_77 rfl ?_
    refine x_callV2i dX7_saidNow_78 lc_RX7_111 (c_X7_cut _ _ _) rfl rfl rfl rfl rfl (fun r13 s14 => ?_)
    exact x_iret dX7_saidNow_81 rfl
  have ec3 := x_ne 0 (by decide) c3
  have ec6 := x_ne 1 (by decide) c6
  have ec9 := x_ne 2 (by decide) c9
  have ec12 := x_ne 3 (by decide) c12
  have ec15 := x_ne 4 (by decide) c15
  refine x_tabO 82 dX7_saidNow_1 (by omega) (by decide) ?_
  refine x_aload_n dX7_saidNow_82 rfl rfl ?_
  refine x_aload_n dX7_saidNow_83 rfl rfl ?_
  refine x_getR dX7_saidNow_84 lk_RX7_34 rfl rfl ?_
  refine x_iconst (v := 5) dX7_saidNow_87 rfl ?_
  refine x_iald dX7_saidNow_88 rfl ?_
  refine x_bipush (v := 48) dX7_saidNow_89 rfl ?_
  refine x_isub dX7_saidNow_91 ?_
  refine x_callV1i dX7_saidNow_92 lc_RX7_115 (c_X7_turn _ _) rfl rfl rfl rfl rfl (fun r16 s17 => ?_)
  exact x_iret dX7_saidNow_95 rfl

theorem c_X7_say (σ : xSt) : CON κi yX7_say m_X7_say false 9 shM [.ref 0] σ (f_X7_say σ) := by
  refine x_con (L := [some (.ref 0), none, none]) (by decide) rfl rfl rfl ?_
  unfold f_X7_say
  refine x_aload_n dX7_say_0 rfl rfl ?_
  refine x_callV0i dX7_say_1 lc_RX7_118 (c_X7_sayingNow _) rfl rfl rfl rfl rfl (fun r1 s2 => ?_)
  refine x_istore_n dX7_say_4 rfl rfl rfl ?_
  refine x_iload_n dX7_say_5 rfl rfl ?_
  refine x_iconst (v := -1) dX7_say_6 rfl ?_
  refine x_icmp_ne 13 dX7_say_7 (by decide) (fun _ => ?_) (fun _ => ?_)
  · refine x_aload_n dX7_say_13 rfl rfl ?_
    refine x_iload_n dX7_say_14 rfl rfl ?_
    refine x_callV1i dX7_say_15 lc_RX7_121 (c_X7_saidNow _ _) rfl rfl rfl rfl rfl (fun r3 s4 => ?_)
    refine x_istore_n dX7_say_18 rfl rfl rfl ?_
    refine x_iload_n dX7_say_19 rfl rfl ?_
    refine x_iconst (v := -1) dX7_say_20 rfl ?_
    refine x_jn 29 (fun (v6 : Unit) => [none, none, some (.int r3)]) (fun (v6 : Unit) => []) (fun v6 s7 => ?_) (fun j8 hj8 => ?_)
    · refine x_iload_n dX7_say_29 rfl rfl ?_
      exact x_iret dX7_say_30 rfl
    · refine x_icmp_lt 29 dX7_say_21 (by decide) (fun _ => ?_) (fun _ => ?_)
      · exact x_sub (x_le_n (x_le_n (x_le_s rfl x_le_e))) (hj8 () _)
      · refine x_aload_n dX7_say_24 rfl rfl ?_
        refine x_iconst (v := 0) dX7_say_25 rfl ?_
        refine x_putIB dX7_say_26 lp_RX7_51 rfl rfl (fun s9 => ?_)
        exact x_sub (x_le_n (x_le_n (x_le_s rfl x_le_e))) (hj8 () _)
  · refine x_bipush (v := -103) dX7_say_10 rfl ?_
    exact x_iret dX7_say_12 rfl

theorem t_X7_fits_34 (w2 : Int32) (k : Int32 → xSt → Option (Int32 × xSt)) (hk : ∀ (w1 : Int32) (σ : xSt), XP κi false m_X7_fits 2 shM 67 [some (.ref 0), some (.int w1), some (.int w2), none] [] σ (k w1 σ)) : ∀ (n : Nat) (w1 : Int32) (w3 : Int32) (σ : xSt), XP κi false m_X7_fits 2 shM 34 [some (.ref 0), some (.int w1), some (.int w2), some (.int w3)] [] σ (f_X7_fits_34 w2 k n w1 w3 σ) := by
  intro n
  induction n with
  | zero => intro w1 w3 σ; exact x_none
  | succ n ih =>
    intro w1 w3 σ
    rw [f_X7_fits_34]
    refine x_iload_n dX7_fits_34 rfl rfl ?_
    refine x_aload_n dX7_fits_35 rfl rfl ?_
    refine x_getI dX7_fits_36 lk_RX7_130 rfl rfl ?_
    refine x_icmp_ge 67 dX7_fits_39 (by decide) (fun _ => ?_) (fun _ => ?_)
    · exact x_sub (x_le_s rfl (x_le_s rfl (x_le_s rfl (x_le_n x_le_e)))) (hk _ _)
    · refine x_iload_n dX7_fits_42 rfl rfl ?_
      refine x_jn 60 (fun (v14 : Int32) => [some (.ref 0), none, some (.int w2), some (.int w3)]) (fun (v14 : Int32) => [.int v14]) (fun v14 s15 => ?_) (fun j16 hj16 => ?_)
      · refine x_istore_n dX7_fits_60 rfl rfl rfl ?_
        refine x_iinc dX7_fits_61 rfl rfl rfl rfl ?_
        refine x_goto 34 dX7_fits_64 (by decide) ?_
        exact x_sub (x_le_s rfl (x_le_s rfl (x_le_s rfl (x_le_s rfl x_le_e)))) (ih _ _ _)
      · refine x_jn 59 (fun (v19 : Unit) => [some (.ref 0), none, some (.int w2), some (.int w3)]) (fun (v19 : Unit) => []) (fun v19 s20 => ?_) (fun j21 hj21 => ?_)
        · refine x_iconst (v := 0) dX7_fits_59 rfl ?_
          exact x_sub (x_le_s rfl (x_le_n (x_le_s rfl (x_le_s rfl x_le_e)))) (hj16 0 _)
        · refine x_if_eq 59 dX7_fits_43 (by decide) (fun _ => ?_) (fun _ => ?_)
          · exact x_sub (x_le_s rfl (x_le_n (x_le_s rfl (x_le_s rfl x_le_e)))) (hj21 () _)
          · refine x_aload_n dX7_fits_46 rfl rfl ?_
            refine x_iload_n dX7_fits_47 rfl rfl ?_
            refine x_iload_n dX7_fits_48 rfl rfl ?_
            refine x_callV2i dX7_fits_49 lc_RX7_182 (c_X7_isFine _ _ _) rfl rfl rfl rfl rfl (fun r22 s23 => ?_)
            refine x_if_eq 59 dX7_fits_52 (by decide) (fun _ => ?_) (fun _ => ?_)
            · exact x_sub (x_le_s rfl (x_le_n (x_le_s rfl (x_le_s rfl x_le_e)))) (hj21 () _)
            · refine x_iconst (v := 1) dX7_fits_55 rfl ?_
              refine x_goto 60 dX7_fits_56 (by decide) ?_
              exact x_sub (x_le_s rfl (x_le_n (x_le_s rfl (x_le_s rfl x_le_e)))) (hj16 1 _)

theorem t_X7_fits_4 (k : Int32 → xSt → Option (Int32 × xSt)) (hk : ∀ (w1 : Int32) (σ : xSt), XP κi false m_X7_fits 2 shM 73 [none, some (.int w1), none, none] [] σ (k w1 σ)) : ∀ (n : Nat) (w1 : Int32) (w2 : Int32) (σ : xSt), XP κi false m_X7_fits 2 shM 4 [some (.ref 0), some (.int w1), some (.int w2), none] [] σ (f_X7_fits_4 k n w1 w2 σ) := by
  intro n
  induction n with
  | zero => intro w1 w2 σ; exact x_none
  | succ n ih =>
    intro w1 w2 σ
    rw [f_X7_fits_4]
    refine x_iload_n dX7_fits_4 rfl rfl ?_
    refine x_aload_n dX7_fits_5 rfl rfl ?_
    refine x_getI dX7_fits_6 lk_RX7_130 rfl rfl ?_
    refine x_icmp_ge 73 dX7_fits_9 (by decide) (fun _ => ?_) (fun _ => ?_)
    · exact x_sub (x_le_n (x_le_s rfl (x_le_n (x_le_n x_le_e)))) (hk _ _)
    · refine x_iload_n dX7_fits_12 rfl rfl ?_
      refine x_jn 31 (fun (v4 : Int32) => [some (.ref 0), none, some (.int w2), none]) (fun (v4 : Int32) => [.int v4]) (fun v4 s5 => ?_) (fun j6 hj6 => ?_)
      · refine x_istore_n dX7_fits_31 rfl rfl rfl ?_
        refine x_iconst (v := 0) dX7_fits_32 rfl ?_
        refine x_istore_n dX7_fits_33 rfl rfl rfl ?_
        refine x_sub (x_le_s rfl (x_le_s rfl (x_le_s rfl (x_le_s rfl x_le_e)))) (t_X7_fits_34 _ _ (fun e24 s25 => ?_) FU _ _ _)
        refine x_iinc dX7_fits_67 rfl rfl rfl rfl ?_
        refine x_goto 4 dX7_fits_70 (by decide) ?_
        exact x_sub (x_le_s rfl (x_le_s rfl (x_le_s rfl (x_le_n x_le_e)))) (ih _ _ _)
      · refine x_jn 30 (fun (v26 : Unit) => [some (.ref 0), none, some (.int w2), none]) (fun (v26 : Unit) => []) (fun v26 s27 => ?_) (fun j28 hj28 => ?_)
        · refine x_iconst (v := 0) dX7_fits_30 rfl ?_
          exact x_sub (x_le_s rfl (x_le_n (x_le_s rfl (x_le_n x_le_e)))) (hj6 0 _)
        · refine x_if_eq 30 dX7_fits_13 (by decide) (fun _ => ?_) (fun _ => ?_)
          · exact x_sub (x_le_s rfl (x_le_n (x_le_s rfl (x_le_n x_le_e)))) (hj28 () _)
          · refine x_aload_n dX7_fits_16 rfl rfl ?_
            refine x_getR dX7_fits_17 lk_RX7_22 rfl rfl ?_
            refine x_iload_n dX7_fits_20 rfl rfl ?_
            refine x_iald dX7_fits_21 rfl ?_
            refine x_iconst (v := -1) dX7_fits_22 rfl ?_
            refine x_icmp_eq 30 dX7_fits_23 (by decide) (fun _ => ?_) (fun _ => ?_)
            · exact x_sub (x_le_s rfl (x_le_n (x_le_s rfl (x_le_n x_le_e)))) (hj28 () _)
            · refine x_iconst (v := 1) dX7_fits_26 rfl ?_
              refine x_goto 31 dX7_fits_27 (by decide) ?_
              exact x_sub (x_le_s rfl (x_le_n (x_le_s rfl (x_le_n x_le_e)))) (hj6 1 _)

theorem c_X7_fits (σ : xSt) : CON κi yX7_fits m_X7_fits false 2 shM [.ref 0] σ (f_X7_fits σ) := by
  refine x_con (L := [some (.ref 0), none, none, none]) (by decide) rfl rfl rfl ?_
  unfold f_X7_fits
  refine x_iconst (v := 1) dX7_fits_0 rfl ?_
  refine x_istore_n dX7_fits_1 rfl rfl rfl ?_
  refine x_iconst (v := 0) dX7_fits_2 rfl ?_
  refine x_istore_n dX7_fits_3 rfl rfl rfl ?_
  refine x_sub (x_le_s rfl (x_le_s rfl (x_le_s rfl (x_le_n x_le_e)))) (t_X7_fits_4 _ (fun e29 s30 => ?_) FU _ _ _)
  refine x_iload_n dX7_fits_73 rfl rfl ?_
  exact x_zret dX7_fits_74 rfl

theorem t_X7_flat_5 (w1 : Int32) (w2 : Int32) (k : Int32 → xSt → Option (Int32 × xSt)) (hk : ∀ (w3 : Int32) (σ : xSt), XP κi false m_X7_flat 2 shM 57 [none, none, none, some (.int w3), none] [] σ (k w3 σ)) : ∀ (n : Nat) (w3 : Int32) (w4 : Int32) (σ : xSt), XP κi false m_X7_flat 2 shM 5 [some (.ref 0), some (.int w1), some (.int w2), some (.int w3), some (.int w4)] [] σ (f_X7_flat_5 w1 w2 k n w3 w4 σ) := by
  intro n
  induction n with
  | zero => intro w3 w4 σ; exact x_none
  | succ n ih =>
    intro w3 w4 σ
    rw [f_X7_flat_5]
    refine x_iload dX7_flat_5 rfl ?_
    refine x_aload_n dX7_flat_7 rfl rfl ?_
    refine x_getI dX7_flat_8 lk_RX7_130 rfl rfl ?_
    refine x_icmp_ge 57 dX7_flat_11 (by decide) (fun _ => ?_) (fun _ => ?_)
    · exact x_sub (x_le_n (x_le_n (x_le_n (x_le_s rfl (x_le_n x_le_e))))) (hk _ _)
    · refine x_iload_n dX7_flat_14 rfl rfl ?_
      refine x_aload_n dX7_flat_15 rfl rfl ?_
      refine x_getR dX7_flat_16 lk_RX7_22 rfl rfl ?_
      refine x_iload dX7_flat_19 rfl ?_
      refine x_iald dX7_flat_21 rfl ?_
      refine x_iload_n dX7_flat_22 rfl rfl ?_
      refine x_jn 49 (fun (v8 : Int32) => [some (.ref 0), some (.int w1), some (.int w2), none, some (.int w4)]) (fun (v8 : Int32) => [.int v8, .int w3]) (fun v8 s9 => ?_) (fun j10 hj10 => ?_)
      · refine x_ior dX7_flat_49 ?_
        refine x_istore_nB dX7_flat_50 rfl rfl rfl (fun x11 => ?_)
        refine x_iinc dX7_flat_51 rfl rfl rfl rfl ?_
        refine x_goto 5 dX7_flat_54 (by decide) ?_
        exact x_sub (x_le_s rfl (x_le_s rfl (x_le_s rfl (x_le_s rfl (x_le_s rfl x_le_e))))) (ih _ _ _)
      · refine x_jn 48 (fun (v14 : Unit) => [some (.ref 0), some (.int w1), some (.int w2), none, some (.int w4)]) (fun (v14 : Unit) => [.int w3]) (fun v14 s15 => ?_) (fun j16 hj16 => ?_)
        · refine x_iconst (v := 0) dX7_flat_48 rfl ?_
          exact x_sub (x_le_s rfl (x_le_s rfl (x_le_s rfl (x_le_n (x_le_s rfl x_le_e))))) (hj10 0 _)
        · refine x_icmp_ne 48 dX7_flat_23 (by decide) (fun _ => ?_) (fun _ => ?_)
          · exact x_sub (x_le_s rfl (x_le_s rfl (x_le_s rfl (x_le_n (x_le_s rfl x_le_e))))) (hj16 () _)
          · refine x_aload_n dX7_flat_26 rfl rfl ?_
            refine x_iload dX7_flat_27 rfl ?_
            refine x_iload_n dX7_flat_29 rfl rfl ?_
            refine x_callV2i dX7_flat_30 lc_RX7_140 (c_X7_isWithin _ _ _) rfl rfl rfl rfl rfl (fun r17 s18 => ?_)
            refine x_if_eq 48 dX7_flat_33 (by decide) (fun _ => ?_) (fun _ => ?_)
            · exact x_sub (x_le_s rfl (x_le_s rfl (x_le_s rfl (x_le_n (x_le_s rfl x_le_e))))) (hj16 () _)
            · refine x_iconst (v := 1) dX7_flat_36 rfl ?_
              refine x_aload_n dX7_flat_37 rfl rfl ?_
              refine x_getR dX7_flat_38 lk_RX7_13 rfl rfl ?_
              refine x_iload dX7_flat_41 rfl ?_
              refine x_iald dX7_flat_43 rfl ?_
              refine x_ishl dX7_flat_44 ?_
              refine x_goto 49 dX7_flat_45 (by decide) ?_
              exact x_sub (x_le_s rfl (x_le_s rfl (x_le_s rfl (x_le_n (x_le_s rfl x_le_e))))) (hj10 ((1 : Int32) <<< ((s18.1 2 w4.toNatClampNeg) &&& 31)) _)

theorem c_X7_flat (a1 : Int32) (a2 : Int32) (σ : xSt) : CON κi yX7_flat m_X7_flat false 2 shM [.ref 0, .int a1, .int a2] σ (f_X7_flat a1 a2 σ) := by
  refine x_con (L := [some (.ref 0), some (.int a1), some (.int a2), none, none]) (by decide) rfl rfl rfl ?_
  unfold f_X7_flat
  refine x_iconst (v := 0) dX7_flat_0 rfl ?_
  refine x_istore_n dX7_flat_1 rfl rfl rfl ?_
  refine x_iconst (v := 0) dX7_flat_2 rfl ?_
  refine x_istore dX7_flat_3 rfl rfl ?_
  refine x_sub (x_le_s rfl (x_le_s rfl (x_le_s rfl (x_le_s rfl (x_le_s rfl x_le_e))))) (t_X7_flat_5 _ _ _ (fun e19 s20 => ?_) FU _ _ _)
  refine x_iload_n dX7_flat_57 rfl rfl ?_
  exact x_iret dX7_flat_58 rfl

theorem t_X7_upright_37 (w1 : Int32) (w2 : Int32) (k : Int32 → xSt → Option (Int32 × xSt)) (hk : ∀ (w3 : Int32) (σ : xSt), XP κi false m_X7_upright 3 shM 177 [none, none, none, some (.int w3), none, none, none, none] [] σ (k w3 σ)) : ∀ (n : Nat) (w3 : Int32) (w4 : Int32) (σ : xSt), XP κi false m_X7_upright 3 shM 37 [some (.ref 0), some (.int w1), some (.int w2), some (.int w3), some (.int w4), none, none, none] [] σ (f_X7_upright_37 w1 w2 k n w3 w4 σ) := by
  intro n
  induction n with
  | zero => intro w3 w4 σ; exact x_none
  | succ n ih =>
    intro w3 w4 σ
    rw [f_X7_upright_37]
    refine x_iload dX7_upright_37 rfl ?_
    refine x_aload_n dX7_upright_39 rfl rfl ?_
    refine x_getI dX7_upright_40 lk_RX7_130 rfl rfl ?_
    refine x_icmp_ge 177 dX7_upright_43 (by decide) (fun _ => ?_) (fun _ => ?_)
    · exact x_sub (x_le_n (x_le_n (x_le_n (x_le_s rfl (x_le_n (x_le_n (x_le_n (x_le_n x_le_e)))))))) (hk _ _)
    · refine x_aload_n dX7_upright_46 rfl rfl ?_
      refine x_getR dX7_upright_47 lk_RX7_22 rfl rfl ?_
      refine x_iload dX7_upright_50 rfl ?_
      refine x_iald dX7_upright_52 rfl ?_
      refine x_iconst (v := -1) dX7_upright_53 rfl ?_
      refine x_jn 72 (fun (v28 : Int32) => [some (.ref 0), some (.int w1), some (.int w2), some (.int w3), some (.int w4), none, none, none]) (fun (v28 : Int32) => [.int v28]) (fun v28 s29 => ?_) (fun j30 hj30 => ?_)
      · refine x_istore dX7_upright_72 rfl rfl ?_
        refine x_aload_n dX7_upright_74 rfl rfl ?_
        refine x_getR dX7_upright_75 lk_RX7_13 rfl rfl ?_
        refine x_iload dX7_upright_78 rfl ?_
        refine x_iald dX7_upright_80 rfl ?_
        refine x_aload_n dX7_upright_81 rfl rfl ?_
        refine x_iload_n dX7_upright_82 rfl rfl ?_
        refine x_callV1i dX7_upright_83 lc_RX7_124 (c_X7_top _ _) rfl rfl rfl rfl rfl (fun r31 s32 => ?_)
        refine x_jn 105 (fun (v36 : Int32) => [some (.ref 0), some (.int w1), some (.int w2), some (.int w3), some (.int w4), some (.int v28), none, none]) (fun (v36 : Int32) => [.int v36]) (fun v36 s37 => ?_) (fun j38 hj38 => ?_)
        · refine x_istore dX7_upright_105 rfl rfl ?_
          refine x_aload_n dX7_upright_107 rfl rfl ?_
          refine x_getR dX7_upright_108 lk_RX7_13 rfl rfl ?_
          refine x_iload dX7_upright_111 rfl ?_
          refine x_iald dX7_upright_113 rfl ?_
          refine x_aload_n dX7_upright_114 rfl rfl ?_
          refine x_iload_n dX7_upright_115 rfl rfl ?_
          refine x_callV1i dX7_upright_116 lc_RX7_127 (c_X7_bottom _ _) rfl rfl rfl rfl rfl (fun r39 s40 => ?_)
          refine x_jn 138 (fun (v44 : Int32) => [some (.ref 0), some (.int w1), some (.int w2), some (.int w3), some (.int w4), some (.int v28), some (.int v36), none]) (fun (v44 : Int32) => [.int v44]) (fun v44 s45 => ?_) (fun j46 hj46 => ?_)
          · refine x_istore dX7_upright_138 rfl rfl ?_
            refine x_iload_n dX7_upright_140 rfl rfl ?_
            refine x_iload dX7_upright_141 rfl ?_
            refine x_jn 169 (fun (v56 : Int32) => [some (.ref 0), some (.int w1), some (.int w2), none, some (.int w4), none, none, none]) (fun (v56 : Int32) => [.int v56, .int w3]) (fun v56 s57 => ?_) (fun j58 hj58 => ?_)
            · refine x_ior dX7_upright_169 ?_
              refine x_istore_nB dX7_upright_170 rfl rfl rfl (fun x59 => ?_)
              refine x_iinc dX7_upright_171 rfl rfl rfl rfl ?_
              refine x_goto 37 dX7_upright_174 (by decide) ?_
              exact x_sub (x_le_s rfl (x_le_s rfl (x_le_s rfl (x_le_s rfl (x_le_s rfl (x_le_n (x_le_n (x_le_n x_le_e)))))))) (ih _ _ _)
            · refine x_jn 168 (fun (v63 : Unit) => [some (.ref 0), some (.int w1), some (.int w2), none, some (.int w4), none, none, none]) (fun (v63 : Unit) => [.int w3]) (fun v63 s64 => ?_) (fun j65 hj65 => ?_)
              · refine x_iconst (v := 0) dX7_upright_168 rfl ?_
                exact x_sub (x_le_s rfl (x_le_s rfl (x_le_s rfl (x_le_n (x_le_s rfl (x_le_n (x_le_n (x_le_n x_le_e)))))))) (hj58 0 _)
              · refine x_if_eq 168 dX7_upright_143 (by decide) (fun _ => ?_) (fun _ => ?_)
                · exact x_sub (x_le_s rfl (x_le_s rfl (x_le_s rfl (x_le_n (x_le_s rfl (x_le_n (x_le_n (x_le_n x_le_e)))))))) (hj65 () _)
                · refine x_iload dX7_upright_146 rfl ?_
                  refine x_jn 156 (fun (v66 : Unit) => [some (.ref 0), some (.int w1), some (.int w2), none, some (.int w4), none, none, none]) (fun (v66 : Unit) => [.int w3]) (fun v66 s67 => ?_) (fun j68 hj68 => ?_)
                  · refine x_iconst (v := 1) dX7_upright_156 rfl ?_
                    refine x_aload_n dX7_upright_157 rfl rfl ?_
                    refine x_getR dX7_upright_158 lk_RX7_13 rfl rfl ?_
                    refine x_iload dX7_upright_161 rfl ?_
                    refine x_iald dX7_upright_163 rfl ?_
                    refine x_ishl dX7_upright_164 ?_
                    refine x_goto 169 dX7_upright_165 (by decide) ?_
                    exact x_sub (x_le_s rfl (x_le_s rfl (x_le_s rfl (x_le_n (x_le_s rfl (x_le_n (x_le_n (x_le_n x_le_e)))))))) (hj58 ((1 : Int32) <<< ((s67.1 2 w4.toNatClampNeg) &&& 31)) _)
                  · refine x_if_ne 156 dX7_upright_148 (by decide) (fun _ => ?_) (fun _ => ?_)
                    · exact x_sub (x_le_s rfl (x_le_s rfl (x_le_s rfl (x_le_n (x_le_s rfl (x_le_n (x_le_n (x_le_n x_le_e)))))))) (hj68 () _)
                    · refine x_iload dX7_upright_151 rfl ?_
                      refine x_if_eq 168 dX7_upright_153 (by decide) (fun _ => ?_) (fun _ => ?_)
                      · exact x_sub (x_le_s rfl (x_le_s rfl (x_le_s rfl (x_le_n (x_le_s rfl (x_le_n (x_le_n (x_le_n x_le_e)))))))) (hj65 () _)
                      · exact x_sub (x_le_s rfl (x_le_s rfl (x_le_s rfl (x_le_n (x_le_s rfl (x_le_n (x_le_n (x_le_n x_le_e)))))))) (hj68 () _)
          · refine x_jn 137 (fun (v69 : Unit) => [some (.ref 0), some (.int w1), some (.int w2), some (.int w3), some (.int w4), some (.int v28), some (.int v36), none]) (fun (v69 : Unit) => []) (fun v69 s70 => ?_) (fun j71 hj71 => ?_)
            · refine x_iconst (v := 0) dX7_upright_137 rfl ?_
              exact x_sub (x_le_s rfl (x_le_s rfl (x_le_s rfl (x_le_s rfl (x_le_s rfl (x_le_s rfl (x_le_s rfl (x_le_n x_le_e)))))))) (hj46 0 _)
            · refine x_icmp_ne 137 dX7_upright_119 (by decide) (fun _ => ?_) (fun _ => ?_)
              · exact x_sub (x_le_s rfl (x_le_s rfl (x_le_s rfl (x_le_s rfl (x_le_s rfl (x_le_s rfl (x_le_s rfl (x_le_n x_le_e)))))))) (hj71 () _)
              · refine x_aload_n dX7_upright_122 rfl rfl ?_
                refine x_getR dX7_upright_123 lk_RX7_22 rfl rfl ?_
                refine x_iload dX7_upright_126 rfl ?_
                refine x_iald dX7_upright_128 rfl ?_
                refine x_iload_n dX7_upright_129 rfl rfl ?_
                refine x_icmp_gt 137 dX7_upright_130 (by decide) (fun _ => ?_) (fun _ => ?_)
                · exact x_sub (x_le_s rfl (x_le_s rfl (x_le_s rfl (x_le_s rfl (x_le_s rfl (x_le_s rfl (x_le_s rfl (x_le_n x_le_e)))))))) (hj71 () _)
                · refine x_iconst (v := 1) dX7_upright_133 rfl ?_
                  refine x_goto 138 dX7_upright_134 (by decide) ?_
                  exact x_sub (x_le_s rfl (x_le_s rfl (x_le_s rfl (x_le_s rfl (x_le_s rfl (x_le_s rfl (x_le_s rfl (x_le_n x_le_e)))))))) (hj46 1 _)
        · refine x_jn 104 (fun (v72 : Unit) => [some (.ref 0), some (.int w1), some (.int w2), some (.int w3), some (.int w4), some (.int v28), none, none]) (fun (v72 : Unit) => []) (fun v72 s73 => ?_) (fun j74 hj74 => ?_)
          · refine x_iconst (v := 0) dX7_upright_104 rfl ?_
            exact x_sub (x_le_s rfl (x_le_s rfl (x_le_s rfl (x_le_s rfl (x_le_s rfl (x_le_s rfl (x_le_n (x_le_n x_le_e)))))))) (hj38 0 _)
          · refine x_icmp_ne 104 dX7_upright_86 (by decide) (fun _ => ?_) (fun _ => ?_)
            · exact x_sub (x_le_s rfl (x_le_s rfl (x_le_s rfl (x_le_s rfl (x_le_s rfl (x_le_s rfl (x_le_n (x_le_n x_le_e)))))))) (hj74 () _)
            · refine x_aload_n dX7_upright_89 rfl rfl ?_
              refine x_getR dX7_upright_90 lk_RX7_22 rfl rfl ?_
              refine x_iload dX7_upright_93 rfl ?_
              refine x_iald dX7_upright_95 rfl ?_
              refine x_iload_n dX7_upright_96 rfl rfl ?_
              refine x_icmp_lt 104 dX7_upright_97 (by decide) (fun _ => ?_) (fun _ => ?_)
              · exact x_sub (x_le_s rfl (x_le_s rfl (x_le_s rfl (x_le_s rfl (x_le_s rfl (x_le_s rfl (x_le_n (x_le_n x_le_e)))))))) (hj74 () _)
              · refine x_iconst (v := 1) dX7_upright_100 rfl ?_
                refine x_goto 105 dX7_upright_101 (by decide) ?_
                exact x_sub (x_le_s rfl (x_le_s rfl (x_le_s rfl (x_le_s rfl (x_le_s rfl (x_le_s rfl (x_le_n (x_le_n x_le_e)))))))) (hj38 1 _)
      · refine x_jn 71 (fun (v77 : Unit) => [some (.ref 0), some (.int w1), some (.int w2), some (.int w3), some (.int w4), none, none, none]) (fun (v77 : Unit) => []) (fun v77 s78 => ?_) (fun j79 hj79 => ?_)
        · refine x_iconst (v := 0) dX7_upright_71 rfl ?_
          exact x_sub (x_le_s rfl (x_le_s rfl (x_le_s rfl (x_le_s rfl (x_le_s rfl (x_le_n (x_le_n (x_le_n x_le_e)))))))) (hj30 0 _)
        · refine x_icmp_eq 71 dX7_upright_54 (by decide) (fun _ => ?_) (fun _ => ?_)
          · exact x_sub (x_le_s rfl (x_le_s rfl (x_le_s rfl (x_le_s rfl (x_le_s rfl (x_le_n (x_le_n (x_le_n x_le_e)))))))) (hj79 () _)
          · refine x_aload_n dX7_upright_57 rfl rfl ?_
            refine x_iload dX7_upright_58 rfl ?_
            refine x_iload_n dX7_upright_60 rfl rfl ?_
            refine x_callV2i dX7_upright_61 lc_RX7_143 (c_X7_touches _ _ _) rfl rfl rfl rfl rfl (fun r80 s81 => ?_)
            refine x_if_eq 71 dX7_upright_64 (by decide) (fun _ => ?_) (fun _ => ?_)
            · exact x_sub (x_le_s rfl (x_le_s rfl (x_le_s rfl (x_le_s rfl (x_le_s rfl (x_le_n (x_le_n (x_le_n x_le_e)))))))) (hj79 () _)
            · refine x_iconst (v := 1) dX7_upright_67 rfl ?_
              refine x_goto 72 dX7_upright_68 (by decide) ?_
              exact x_sub (x_le_s rfl (x_le_s rfl (x_le_s rfl (x_le_s rfl (x_le_s rfl (x_le_n (x_le_n (x_le_n x_le_e)))))))) (hj30 1 _)

theorem c_X7_upright (a1 : Int32) (a2 : Int32) (σ : xSt) : CON κi yX7_upright m_X7_upright false 3 shM [.ref 0, .int a1, .int a2] σ (f_X7_upright a1 a2 σ) := by
  refine x_con (L := [some (.ref 0), some (.int a1), some (.int a2), none, none, none, none, none]) (by decide) rfl rfl rfl ?_
  unfold f_X7_upright
  refine x_aload_n dX7_upright_0 rfl rfl ?_
  refine x_iload_n dX7_upright_1 rfl rfl ?_
  refine x_callV1i dX7_upright_2 lc_RX7_124 (c_X7_top _ _) rfl rfl rfl rfl rfl (fun r1 s2 => ?_)
  refine x_iconst (v := -1) dX7_upright_5 rfl ?_
  refine x_jn 33 (fun (v18 : Int32) => [some (.ref 0), some (.int a1), some (.int a2), none, none, none, none, none]) (fun (v18 : Int32) => [.int v18]) (fun v18 s19 => ?_) (fun j20 hj20 => ?_)
  · refine x_istore_n dX7_upright_33 rfl rfl rfl ?_
    refine x_iconst (v := 0) dX7_upright_34 rfl ?_
    refine x_istore dX7_upright_35 rfl rfl ?_
    refine x_sub (x_le_s rfl (x_le_s rfl (x_le_s rfl (x_le_s rfl (x_le_s rfl (x_le_n (x_le_n (x_le_n x_le_e)))))))) (t_X7_upright_37 _ _ _ (fun e82 s83 => ?_) FU _ _ _)
    refine x_iload_n dX7_upright_177 rfl rfl ?_
    exact x_iret dX7_upright_178 rfl
  · refine x_jn 32 (fun (v90 : Unit) => [some (.ref 0), some (.int a1), some (.int a2), none, none, none, none, none]) (fun (v90 : Unit) => []) (fun v90 s91 => ?_) (fun j92 hj92 => ?_)
    · refine x_iconst (v := 0) dX7_upright_32 rfl ?_
      exact x_sub (x_le_s rfl (x_le_s rfl (x_le_s rfl (x_le_n (x_le_n (x_le_n (x_le_n (x_le_n x_le_e)))))))) (hj20 0 _)
    · refine x_icmp_eq 32 dX7_upright_6 (by decide) (fun _ => ?_) (fun _ => ?_)
      · exact x_sub (x_le_s rfl (x_le_s rfl (x_le_s rfl (x_le_n (x_le_n (x_le_n (x_le_n (x_le_n x_le_e)))))))) (hj92 () _)
      · refine x_aload_n dX7_upright_9 rfl rfl ?_
        refine x_iload_n dX7_upright_10 rfl rfl ?_
        refine x_callV1i dX7_upright_11 lc_RX7_124 (c_X7_top _ _) rfl rfl rfl rfl rfl (fun r93 s94 => ?_)
        refine x_aload_n dX7_upright_14 rfl rfl ?_
        refine x_iload_n dX7_upright_15 rfl rfl ?_
        refine x_callV1i dX7_upright_16 lc_RX7_127 (c_X7_bottom _ _) rfl rfl rfl rfl rfl (fun r95 s96 => ?_)
        refine x_icmp_ne 32 dX7_upright_19 (by decide) (fun _ => ?_) (fun _ => ?_)
        · exact x_sub (x_le_s rfl (x_le_s rfl (x_le_s rfl (x_le_n (x_le_n (x_le_n (x_le_n (x_le_n x_le_e)))))))) (hj92 () _)
        · refine x_iconst (v := 1) dX7_upright_22 rfl ?_
          refine x_aload_n dX7_upright_23 rfl rfl ?_
          refine x_iload_n dX7_upright_24 rfl rfl ?_
          refine x_callV1i dX7_upright_25 lc_RX7_124 (c_X7_top _ _) rfl rfl rfl rfl rfl (fun r97 s98 => ?_)
          refine x_ishl dX7_upright_28 ?_
          refine x_goto 33 dX7_upright_29 (by decide) ?_
          exact x_sub (x_le_s rfl (x_le_s rfl (x_le_s rfl (x_le_n (x_le_n (x_le_n (x_le_n (x_le_n x_le_e)))))))) (hj20 ((1 : Int32) <<< (r97 &&& 31)) _)

theorem t_X7_clashes_14 (w2 : Int32) (k : Int32 → xSt → Option (Int32 × xSt)) (hk : ∀ (w1 : Int32) (σ : xSt), XP κi false m_X7_clashes 4 shM 70 [some (.ref 0), some (.int w1), some (.int w2), none] [] σ (k w1 σ)) : ∀ (n : Nat) (w1 : Int32) (w3 : Int32) (σ : xSt), XP κi false m_X7_clashes 4 shM 14 [some (.ref 0), some (.int w1), some (.int w2), some (.int w3)] [] σ (f_X7_clashes_14 w2 k n w1 w3 σ) := by
  intro n
  induction n with
  | zero => intro w1 w3 σ; exact x_none
  | succ n ih =>
    intro w1 w3 σ
    rw [f_X7_clashes_14]
    refine x_iload_n dX7_clashes_14 rfl rfl ?_
    refine x_aload_n dX7_clashes_15 rfl rfl ?_
    refine x_getI dX7_clashes_16 lk_RX7_87 rfl rfl ?_
    refine x_icmp_ge 70 dX7_clashes_19 (by decide) (fun _ => ?_) (fun _ => ?_)
    · exact x_sub (x_le_s rfl (x_le_s rfl (x_le_s rfl (x_le_n x_le_e)))) (hk _ _)
    · refine x_iload_n dX7_clashes_22 rfl rfl ?_
      refine x_aload_n dX7_clashes_23 rfl rfl ?_
      refine x_iload_n dX7_clashes_24 rfl rfl ?_
      refine x_iload_n dX7_clashes_25 rfl rfl ?_
      refine x_callV2i dX7_clashes_26 lc_RX7_188 (c_X7_flat _ _ _) rfl rfl rfl rfl rfl (fun r3 s4 => ?_)
      refine x_callS1i dX7_clashes_29 lc_RX7_191 (c_X7_size _ _) rfl rfl (fun r5 s6 => ?_)
      refine x_iconst (v := 1) dX7_clashes_32 rfl ?_
      refine x_jn 41 (fun (v7 : Int32) => [some (.ref 0), none, some (.int w2), some (.int w3)]) (fun (v7 : Int32) => [.int v7, .int w1]) (fun v7 s8 => ?_) (fun j9 hj9 => ?_)
      · refine x_iadd dX7_clashes_41 ?_
        refine x_istore_nB dX7_clashes_42 rfl rfl rfl (fun x10 => ?_)
        refine x_iload_n dX7_clashes_43 rfl rfl ?_
        refine x_aload_n dX7_clashes_44 rfl rfl ?_
        refine x_iload_n dX7_clashes_45 rfl rfl ?_
        refine x_iload_n dX7_clashes_46 rfl rfl ?_
        refine x_callV2i dX7_clashes_47 lc_RX7_194 (c_X7_upright _ _ _) rfl rfl rfl rfl rfl (fun r11 s12 => ?_)
        refine x_callS1i dX7_clashes_50 lc_RX7_191 (c_X7_size _ _) rfl rfl (fun r13 s14 => ?_)
        refine x_iconst (v := 1) dX7_clashes_53 rfl ?_
        refine x_jn 62 (fun (v15 : Int32) => [some (.ref 0), none, some (.int w2), some (.int w3)]) (fun (v15 : Int32) => [.int v15, .int x10]) (fun v15 s16 => ?_) (fun j17 hj17 => ?_)
        · refine x_iadd dX7_clashes_62 ?_
          refine x_istore_nB dX7_clashes_63 rfl rfl rfl (fun x18 => ?_)
          refine x_iinc dX7_clashes_64 rfl rfl rfl rfl ?_
          refine x_goto 14 dX7_clashes_67 (by decide) ?_
          exact x_sub (x_le_s rfl (x_le_s rfl (x_le_s rfl (x_le_s rfl x_le_e)))) (ih _ _ _)
        · refine x_icmp_le 61 dX7_clashes_54 (by decide) (fun _ => ?_) (fun _ => ?_)
          · refine x_iconst (v := 0) dX7_clashes_61 rfl ?_
            exact x_sub (x_le_s rfl (x_le_n (x_le_s rfl (x_le_s rfl x_le_e)))) (hj17 0 _)
          · refine x_iconst (v := 1) dX7_clashes_57 rfl ?_
            refine x_goto 62 dX7_clashes_58 (by decide) ?_
            exact x_sub (x_le_s rfl (x_le_n (x_le_s rfl (x_le_s rfl x_le_e)))) (hj17 1 _)
      · refine x_icmp_le 40 dX7_clashes_33 (by decide) (fun _ => ?_) (fun _ => ?_)
        · refine x_iconst (v := 0) dX7_clashes_40 rfl ?_
          exact x_sub (x_le_s rfl (x_le_n (x_le_s rfl (x_le_s rfl x_le_e)))) (hj9 0 _)
        · refine x_iconst (v := 1) dX7_clashes_36 rfl ?_
          refine x_goto 41 dX7_clashes_37 (by decide) ?_
          exact x_sub (x_le_s rfl (x_le_n (x_le_s rfl (x_le_s rfl x_le_e)))) (hj9 1 _)

theorem t_X7_clashes_4 (k : Int32 → xSt → Option (Int32 × xSt)) (hk : ∀ (w1 : Int32) (σ : xSt), XP κi false m_X7_clashes 4 shM 76 [none, some (.int w1), none, none] [] σ (k w1 σ)) : ∀ (n : Nat) (w1 : Int32) (w2 : Int32) (σ : xSt), XP κi false m_X7_clashes 4 shM 4 [some (.ref 0), some (.int w1), some (.int w2), none] [] σ (f_X7_clashes_4 k n w1 w2 σ) := by
  intro n
  induction n with
  | zero => intro w1 w2 σ; exact x_none
  | succ n ih =>
    intro w1 w2 σ
    rw [f_X7_clashes_4]
    refine x_iload_n dX7_clashes_4 rfl rfl ?_
    refine x_aload_n dX7_clashes_5 rfl rfl ?_
    refine x_callV0i dX7_clashes_6 lc_RX7_185 (c_X7_depth _) rfl rfl rfl rfl rfl (fun r1 s2 => ?_)
    refine x_icmp_ge 76 dX7_clashes_9 (by decide) (fun _ => ?_) (fun _ => ?_)
    · exact x_sub (x_le_n (x_le_s rfl (x_le_n (x_le_n x_le_e)))) (hk _ _)
    · refine x_iconst (v := 0) dX7_clashes_12 rfl ?_
      refine x_istore_n dX7_clashes_13 rfl rfl rfl ?_
      refine x_sub (x_le_s rfl (x_le_s rfl (x_le_s rfl (x_le_s rfl x_le_e)))) (t_X7_clashes_14 _ _ (fun e19 s20 => ?_) FU _ _ _)
      refine x_iinc dX7_clashes_70 rfl rfl rfl rfl ?_
      refine x_goto 4 dX7_clashes_73 (by decide) ?_
      exact x_sub (x_le_s rfl (x_le_s rfl (x_le_s rfl (x_le_n x_le_e)))) (ih _ _ _)

theorem c_X7_clashes (σ : xSt) : CON κi yX7_clashes m_X7_clashes false 4 shM [.ref 0] σ (f_X7_clashes σ) := by
  refine x_con (L := [some (.ref 0), none, none, none]) (by decide) rfl rfl rfl ?_
  unfold f_X7_clashes
  refine x_iconst (v := 0) dX7_clashes_0 rfl ?_
  refine x_istore_n dX7_clashes_1 rfl rfl rfl ?_
  refine x_iconst (v := 0) dX7_clashes_2 rfl ?_
  refine x_istore_n dX7_clashes_3 rfl rfl rfl ?_
  refine x_sub (x_le_s rfl (x_le_s rfl (x_le_s rfl (x_le_n x_le_e)))) (t_X7_clashes_4 _ (fun e21 s22 => ?_) FU _ _ _)
  refine x_iload_n dX7_clashes_76 rfl rfl ?_
  exact x_iret dX7_clashes_77 rfl

theorem c_X7_inkLength (σ : xSt) : CON κi yX7_inkLength m_X7_inkLength false 1 shM [.ref 0] σ (f_X7_inkLength σ) := by
  refine x_con (L := [some (.ref 0)]) (by decide) rfl rfl rfl ?_
  unfold f_X7_inkLength
  refine x_aload_n dX7_inkLength_0 rfl rfl ?_
  refine x_callV0i dX7_inkLength_1 lc_RX7_197 (c_X7_isThere _) rfl rfl rfl rfl rfl (fun r1 s2 => ?_)
  refine x_jn 31 (fun (v14 : Int32) => [none]) (fun (v14 : Int32) => [.int v14]) (fun v14 s15 => ?_) (fun j16 hj16 => ?_)
  · exact x_iret dX7_inkLength_31 rfl
  · refine x_jn 30 (fun (v21 : Unit) => [none]) (fun (v21 : Unit) => []) (fun v21 s22 => ?_) (fun j23 hj23 => ?_)
    · refine x_iconst (v := 0) dX7_inkLength_30 rfl ?_
      exact x_sub (x_le_n x_le_e) (hj16 0 _)
    · refine x_if_eq 30 dX7_inkLength_4 (by decide) (fun _ => ?_) (fun _ => ?_)
      · exact x_sub (x_le_n x_le_e) (hj23 () _)
      · refine x_aload_n dX7_inkLength_7 rfl rfl ?_
        refine x_callV0i dX7_inkLength_8 lc_RX7_185 (c_X7_depth _) rfl rfl rfl rfl rfl (fun r24 s25 => ?_)
        refine x_if_le 30 dX7_inkLength_11 (by decide) (fun _ => ?_) (fun _ => ?_)
        · exact x_sub (x_le_n x_le_e) (hj23 () _)
        · refine x_aload_n dX7_inkLength_14 rfl rfl ?_
          refine x_callV0i dX7_inkLength_15 lc_RX7_185 (c_X7_depth _) rfl rfl rfl rfl rfl (fun r26 s27 => ?_)
          refine x_aload_n dX7_inkLength_18 rfl rfl ?_
          refine x_getI dX7_inkLength_19 lk_RX7_87 rfl rfl ?_
          refine x_iconst (v := 1) dX7_inkLength_22 rfl ?_
          refine x_iadd dX7_inkLength_23 ?_
          refine x_imul dX7_inkLength_24 ?_
          refine x_iconst (v := 1) dX7_inkLength_25 rfl ?_
          refine x_isub dX7_inkLength_26 ?_
          refine x_goto 31 dX7_inkLength_27 (by decide) ?_
          exact x_sub (x_le_n x_le_e) (hj16 ((r26 * ((s27.1 0 0) + 1)) - 1) _)

theorem c_X7_inkNow (a1 : Int32) (σ : xSt) : CON κi yX7_inkNow m_X7_inkNow false 3 shM [.ref 0, .int a1] σ (f_X7_inkNow a1 σ) := by
  refine x_con (L := [some (.ref 0), some (.int a1), none, none]) (by decide) rfl rfl rfl ?_
  unfold f_X7_inkNow
  refine x_iload_n dX7_inkNow_0 rfl rfl ?_
  refine x_aload_n dX7_inkNow_1 rfl rfl ?_
  refine x_getI dX7_inkNow_2 lk_RX7_87 rfl rfl ?_
  refine x_iconst (v := 1) dX7_inkNow_5 rfl ?_
  refine x_iadd dX7_inkNow_6 ?_
  refine x_irem dX7_inkNow_7 ?_
  refine x_istore_nB dX7_inkNow_8 rfl rfl rfl (fun x1 => ?_)
  refine x_iload_n dX7_inkNow_9 rfl rfl ?_
  refine x_aload_n dX7_inkNow_10 rfl rfl ?_
  refine x_getI dX7_inkNow_11 lk_RX7_87 rfl rfl ?_
  refine x_icmp_ne 20 dX7_inkNow_14 (by decide) (fun _ => ?_) (fun _ => ?_)
  · refine x_aload_n dX7_inkNow_20 rfl rfl ?_
    refine x_iload_n dX7_inkNow_21 rfl rfl ?_
    refine x_aload_n dX7_inkNow_22 rfl rfl ?_
    refine x_getI dX7_inkNow_23 lk_RX7_87 rfl rfl ?_
    refine x_iconst (v := 1) dX7_inkNow_26 rfl ?_
    refine x_iadd dX7_inkNow_27 ?_
    refine x_idiv dX7_inkNow_28 ?_
    refine x_iload_n dX7_inkNow_29 rfl rfl ?_
    refine x_callV2i dX7_inkNow_30 lc_RX7_188 (c_X7_flat _ _ _) rfl rfl rfl rfl rfl (fun r2 s3 => ?_)
    refine x_istore_n dX7_inkNow_33 rfl rfl rfl ?_
    refine x_iload_n dX7_inkNow_34 rfl rfl ?_
    refine x_jn 63 (fun (v8 : Int32) => [none, none, none, none]) (fun (v8 : Int32) => [.int v8]) (fun v8 s9 => ?_) (fun j10 hj10 => ?_)
    · exact x_iret dX7_inkNow_63 rfl
    · refine x_if_ne 43 dX7_inkNow_35 (by decide) (fun _ => ?_) (fun _ => ?_)
      · refine x_iload_n dX7_inkNow_43 rfl rfl ?_
        refine x_callS1i dX7_inkNow_44 lc_RX7_191 (c_X7_size _ _) rfl rfl (fun r11 s12 => ?_)
        refine x_iconst (v := 1) dX7_inkNow_47 rfl ?_
        refine x_icmp_le 56 dX7_inkNow_48 (by decide) (fun _ => ?_) (fun _ => ?_)
        · refine x_bipush (v := 97) dX7_inkNow_56 rfl ?_
          refine x_iload_n dX7_inkNow_58 rfl rfl ?_
          refine x_callS1i dX7_inkNow_59 lc_RX7_159 (c_X7_leastOf _ _) rfl rfl (fun r13 s14 => ?_)
          refine x_iadd dX7_inkNow_62 ?_
          exact x_sub (x_le_n (x_le_n (x_le_n (x_le_n x_le_e)))) (hj10 ((97 : Int32) + r13) _)
        · refine x_bipush (v := 35) dX7_inkNow_51 rfl ?_
          refine x_goto 63 dX7_inkNow_53 (by decide) ?_
          exact x_sub (x_le_n (x_le_n (x_le_n (x_le_n x_le_e)))) (hj10 35 _)
      · refine x_bipush (v := 46) dX7_inkNow_38 rfl ?_
        refine x_goto 63 dX7_inkNow_40 (by decide) ?_
        exact x_sub (x_le_n (x_le_n (x_le_n (x_le_n x_le_e)))) (hj10 46 _)
  · refine x_bipush (v := 47) dX7_inkNow_17 rfl ?_
    exact x_iret dX7_inkNow_19 rfl

theorem c_X7_ink (a1 : Int32) (σ : xSt) : CON κi yX7_ink m_X7_ink false 4 shM [.ref 0, .int a1] σ (f_X7_ink a1 σ) := by
  refine x_con (L := [some (.ref 0), some (.int a1)]) (by decide) rfl rfl rfl ?_
  unfold f_X7_ink
  refine x_iload_n dX7_ink_0 rfl rfl ?_
  refine x_iconst (v := 0) dX7_ink_1 rfl ?_
  refine x_aload_n dX7_ink_2 rfl rfl ?_
  refine x_callV0i dX7_ink_3 lc_RX7_200 (c_X7_inkLength _) rfl rfl rfl rfl rfl (fun r1 s2 => ?_)
  refine x_iconst (v := 1) dX7_ink_6 rfl ?_
  refine x_isub dX7_ink_7 ?_
  refine x_callS3i dX7_ink_8 lc_RX7_47 (c_X7_within _ _ _ _) rfl rfl (fun r3 s4 => ?_)
  refine x_jn 24 (fun (v7 : Int32) => [none, none]) (fun (v7 : Int32) => [.int v7]) (fun v7 s8 => ?_) (fun j9 hj9 => ?_)
  · exact x_iret dX7_ink_24 rfl
  · refine x_if_eq 22 dX7_ink_11 (by decide) (fun _ => ?_) (fun _ => ?_)
    · refine x_bipush (v := -101) dX7_ink_22 rfl ?_
      exact x_sub (x_le_n (x_le_n x_le_e)) (hj9 (-101) _)
    · refine x_aload_n dX7_ink_14 rfl rfl ?_
      refine x_iload_n dX7_ink_15 rfl rfl ?_
      refine x_callV1i dX7_ink_16 lc_RX7_203 (c_X7_inkNow _ _) rfl rfl rfl rfl rfl (fun r10 s11 => ?_)
      refine x_goto 24 dX7_ink_19 (by decide) ?_
      exact x_sub (x_le_n (x_le_n x_le_e)) (hj9 r10 _)

theorem t_X7_netsIn_4 (w1 : Int32) (k : Int32 → xSt → Option (Int32 × xSt)) (hk : ∀ (w2 : Int32) (σ : xSt), XP κi false m_X7_netsIn 2 shM 42 [none, none, some (.int w2), none] [] σ (k w2 σ)) : ∀ (n : Nat) (w2 : Int32) (w3 : Int32) (σ : xSt), XP κi false m_X7_netsIn 2 shM 4 [some (.ref 0), some (.int w1), some (.int w2), some (.int w3)] [] σ (f_X7_netsIn_4 w1 k n w2 w3 σ) := by
  intro n
  induction n with
  | zero => intro w2 w3 σ; exact x_none
  | succ n ih =>
    intro w2 w3 σ
    rw [f_X7_netsIn_4]
    refine x_iload_n dX7_netsIn_4 rfl rfl ?_
    refine x_aload_n dX7_netsIn_5 rfl rfl ?_
    refine x_getI dX7_netsIn_6 lk_RX7_130 rfl rfl ?_
    refine x_icmp_ge 42 dX7_netsIn_9 (by decide) (fun _ => ?_) (fun _ => ?_)
    · exact x_sub (x_le_n (x_le_n (x_le_s rfl (x_le_n x_le_e)))) (hk _ _)
    · refine x_iload_n dX7_netsIn_12 rfl rfl ?_
      refine x_aload_n dX7_netsIn_13 rfl rfl ?_
      refine x_iload_n dX7_netsIn_14 rfl rfl ?_
      refine x_iload_n dX7_netsIn_15 rfl rfl ?_
      refine x_callV2i dX7_netsIn_16 lc_RX7_140 (c_X7_isWithin _ _ _) rfl rfl rfl rfl rfl (fun r1 s2 => ?_)
      refine x_jn 34 (fun (v3 : Int32) => [some (.ref 0), some (.int w1), none, some (.int w3)]) (fun (v3 : Int32) => [.int v3, .int w2]) (fun v3 s4 => ?_) (fun j5 hj5 => ?_)
      · refine x_ior dX7_netsIn_34 ?_
        refine x_istore_nB dX7_netsIn_35 rfl rfl rfl (fun x6 => ?_)
        refine x_iinc dX7_netsIn_36 rfl rfl rfl rfl ?_
        refine x_goto 4 dX7_netsIn_39 (by decide) ?_
        exact x_sub (x_le_s rfl (x_le_s rfl (x_le_s rfl (x_le_s rfl x_le_e)))) (ih _ _ _)
      · refine x_if_eq 33 dX7_netsIn_19 (by decide) (fun _ => ?_) (fun _ => ?_)
        · refine x_iconst (v := 0) dX7_netsIn_33 rfl ?_
          exact x_sub (x_le_s rfl (x_le_s rfl (x_le_n (x_le_s rfl x_le_e)))) (hj5 0 _)
        · refine x_iconst (v := 1) dX7_netsIn_22 rfl ?_
          refine x_aload_n dX7_netsIn_23 rfl rfl ?_
          refine x_getR dX7_netsIn_24 lk_RX7_13 rfl rfl ?_
          refine x_iload_n dX7_netsIn_27 rfl rfl ?_
          refine x_iald dX7_netsIn_28 rfl ?_
          refine x_ishl dX7_netsIn_29 ?_
          refine x_goto 34 dX7_netsIn_30 (by decide) ?_
          exact x_sub (x_le_s rfl (x_le_s rfl (x_le_n (x_le_s rfl x_le_e)))) (hj5 ((1 : Int32) <<< ((s2.1 2 w3.toNatClampNeg) &&& 31)) _)

theorem c_X7_netsIn (a1 : Int32) (σ : xSt) : CON κi yX7_netsIn m_X7_netsIn false 2 shM [.ref 0, .int a1] σ (f_X7_netsIn a1 σ) := by
  refine x_con (L := [some (.ref 0), some (.int a1), none, none]) (by decide) rfl rfl rfl ?_
  unfold f_X7_netsIn
  refine x_iconst (v := 0) dX7_netsIn_0 rfl ?_
  refine x_istore_n dX7_netsIn_1 rfl rfl rfl ?_
  refine x_iconst (v := 0) dX7_netsIn_2 rfl ?_
  refine x_istore_n dX7_netsIn_3 rfl rfl rfl ?_
  refine x_sub (x_le_s rfl (x_le_s rfl (x_le_s rfl (x_le_s rfl x_le_e)))) (t_X7_netsIn_4 _ _ (fun e7 s8 => ?_) FU _ _ _)
  refine x_iload_n dX7_netsIn_42 rfl rfl ?_
  exact x_iret dX7_netsIn_43 rfl

theorem t_X7_density_4 (k : Int32 → xSt → Option (Int32 × xSt)) (hk : ∀ (w1 : Int32) (σ : xSt), XP κi false m_X7_density 3 shM 38 [none, some (.int w1), none, none] [] σ (k w1 σ)) : ∀ (n : Nat) (w1 : Int32) (w2 : Int32) (σ : xSt), XP κi false m_X7_density 3 shM 4 [some (.ref 0), some (.int w1), some (.int w2), none] [] σ (f_X7_density_4 k n w1 w2 σ) := by
  intro n
  induction n with
  | zero => intro w1 w2 σ; exact x_none
  | succ n ih =>
    intro w1 w2 σ
    rw [f_X7_density_4]
    refine x_iload_n dX7_density_4 rfl rfl ?_
    refine x_aload_n dX7_density_5 rfl rfl ?_
    refine x_getI dX7_density_6 lk_RX7_87 rfl rfl ?_
    refine x_icmp_ge 38 dX7_density_9 (by decide) (fun _ => ?_) (fun _ => ?_)
    · exact x_sub (x_le_n (x_le_s rfl (x_le_n (x_le_n x_le_e)))) (hk _ _)
    · refine x_aload_n dX7_density_12 rfl rfl ?_
      refine x_iload_n dX7_density_13 rfl rfl ?_
      refine x_callV1i dX7_density_14 lc_RX7_206 (c_X7_netsIn _ _) rfl rfl rfl rfl rfl (fun r1 s2 => ?_)
      refine x_callS1i dX7_density_17 lc_RX7_191 (c_X7_size _ _) rfl rfl (fun r3 s4 => ?_)
      refine x_istore_n dX7_density_20 rfl rfl rfl ?_
      refine x_iload_n dX7_density_21 rfl rfl ?_
      refine x_iload_n dX7_density_22 rfl rfl ?_
      refine x_jn 31 (fun (v5 : Int32) => [some (.ref 0), none, some (.int w2), none]) (fun (v5 : Int32) => [.int v5]) (fun v5 s6 => ?_) (fun j7 hj7 => ?_)
      · refine x_istore_n dX7_density_31 rfl rfl rfl ?_
        refine x_iinc dX7_density_32 rfl rfl rfl rfl ?_
        refine x_goto 4 dX7_density_35 (by decide) ?_
        exact x_sub (x_le_s rfl (x_le_s rfl (x_le_s rfl (x_le_n x_le_e)))) (ih _ _ _)
      · refine x_icmp_le 30 dX7_density_23 (by decide) (fun _ => ?_) (fun _ => ?_)
        · refine x_iload_n dX7_density_30 rfl rfl ?_
          exact x_sub (x_le_s rfl (x_le_n (x_le_s rfl (x_le_n x_le_e)))) (hj7 w1 _)
        · refine x_iload_n dX7_density_26 rfl rfl ?_
          refine x_goto 31 dX7_density_27 (by decide) ?_
          exact x_sub (x_le_s rfl (x_le_n (x_le_s rfl (x_le_n x_le_e)))) (hj7 r3 _)

theorem c_X7_density (σ : xSt) : CON κi yX7_density m_X7_density false 3 shM [.ref 0] σ (f_X7_density σ) := by
  refine x_con (L := [some (.ref 0), none, none, none]) (by decide) rfl rfl rfl ?_
  unfold f_X7_density
  refine x_iconst (v := 0) dX7_density_0 rfl ?_
  refine x_istore_n dX7_density_1 rfl rfl rfl ?_
  refine x_iconst (v := 0) dX7_density_2 rfl ?_
  refine x_istore_n dX7_density_3 rfl rfl rfl ?_
  refine x_sub (x_le_s rfl (x_le_s rfl (x_le_s rfl (x_le_n x_le_e)))) (t_X7_density_4 _ (fun e8 s9 => ?_) FU _ _ _)
  refine x_iload_n dX7_density_38 rfl rfl ?_
  exact x_iret dX7_density_39 rfl

theorem t_X7_isZone_19 (w1 : Int32) (w2 : Int32) (k : Int32 → xSt → Option (Int32 × xSt)) (hk : ∀ (w3 : Int32) (σ : xSt), XP κi false m_X7_isZone 3 shM 90 [none, none, none, some (.int w3), none, none, none] [] σ (k w3 σ)) : ∀ (n : Nat) (w3 : Int32) (w4 : Int32) (σ : xSt), XP κi false m_X7_isZone 3 shM 19 [some (.ref 0), some (.int w1), some (.int w2), some (.int w3), some (.int w4), none, none] [] σ (f_X7_isZone_19 w1 w2 k n w3 w4 σ) := by
  intro n
  induction n with
  | zero => intro w3 w4 σ; exact x_none
  | succ n ih =>
    intro w3 w4 σ
    rw [f_X7_isZone_19]
    refine x_iload dX7_isZone_19 rfl ?_
    refine x_aload_n dX7_isZone_21 rfl rfl ?_
    refine x_getI dX7_isZone_22 lk_RX7_87 rfl rfl ?_
    refine x_icmp_ge 90 dX7_isZone_25 (by decide) (fun _ => ?_) (fun _ => ?_)
    · exact x_sub (x_le_n (x_le_n (x_le_n (x_le_s rfl (x_le_n (x_le_n (x_le_n x_le_e))))))) (hk _ _)
    · refine x_aload_n dX7_isZone_28 rfl rfl ?_
      refine x_iload dX7_isZone_29 rfl ?_
      refine x_callV1i dX7_isZone_31 lc_RX7_206 (c_X7_netsIn _ _) rfl rfl rfl rfl rfl (fun r6 s7 => ?_)
      refine x_istore dX7_isZone_34 rfl rfl ?_
      refine x_iload_n dX7_isZone_36 rfl rfl ?_
      refine x_iload dX7_isZone_37 rfl ?_
      refine x_iand dX7_isZone_39 ?_
      refine x_iload_n dX7_isZone_40 rfl rfl ?_
      refine x_jn 49 (fun (v8 : Int32) => [some (.ref 0), some (.int w1), some (.int w2), some (.int w3), some (.int w4), some (.int r6), none]) (fun (v8 : Int32) => [.int v8]) (fun v8 s9 => ?_) (fun j10 hj10 => ?_)
      · refine x_istore dX7_isZone_49 rfl rfl ?_
        refine x_iload_n dX7_isZone_51 rfl rfl ?_
        refine x_jn 83 (fun (v26 : Int32) => [some (.ref 0), some (.int w1), some (.int w2), none, some (.int w4), none, none]) (fun (v26 : Int32) => [.int v26]) (fun v26 s27 => ?_) (fun j28 hj28 => ?_)
        · refine x_istore_n dX7_isZone_83 rfl rfl rfl ?_
          refine x_iinc dX7_isZone_84 rfl rfl rfl rfl ?_
          refine x_goto 19 dX7_isZone_87 (by decide) ?_
          exact x_sub (x_le_s rfl (x_le_s rfl (x_le_s rfl (x_le_s rfl (x_le_s rfl (x_le_n (x_le_n x_le_e))))))) (ih _ _ _)
        · refine x_jn 82 (fun (v35 : Unit) => [some (.ref 0), some (.int w1), some (.int w2), none, some (.int w4), none, none]) (fun (v35 : Unit) => []) (fun v35 s36 => ?_) (fun j37 hj37 => ?_)
          · refine x_iconst (v := 0) dX7_isZone_82 rfl ?_
            exact x_sub (x_le_s rfl (x_le_s rfl (x_le_s rfl (x_le_n (x_le_s rfl (x_le_n (x_le_n x_le_e))))))) (hj28 0 _)
          · refine x_if_eq 82 dX7_isZone_52 (by decide) (fun _ => ?_) (fun _ => ?_)
            · exact x_sub (x_le_s rfl (x_le_s rfl (x_le_s rfl (x_le_n (x_le_s rfl (x_le_n (x_le_n x_le_e))))))) (hj37 () _)
            · refine x_iload dX7_isZone_55 rfl ?_
              refine x_jn 66 (fun (v38 : Unit) => [some (.ref 0), some (.int w1), some (.int w2), none, some (.int w4), some (.int r6), none]) (fun (v38 : Unit) => []) (fun v38 s39 => ?_) (fun j40 hj40 => ?_)
              · refine x_iload dX7_isZone_66 rfl ?_
                refine x_iload_n dX7_isZone_68 rfl rfl ?_
                refine x_jn 78 (fun (v41 : Unit) => [some (.ref 0), some (.int w1), some (.int w2), none, some (.int w4), none, none]) (fun (v41 : Unit) => []) (fun v41 s42 => ?_) (fun j43 hj43 => ?_)
                · refine x_iconst (v := 1) dX7_isZone_78 rfl ?_
                  refine x_goto 83 dX7_isZone_79 (by decide) ?_
                  exact x_sub (x_le_s rfl (x_le_s rfl (x_le_s rfl (x_le_n (x_le_s rfl (x_le_n (x_le_n x_le_e))))))) (hj28 1 _)
                · refine x_icmp_ne 78 dX7_isZone_69 (by decide) (fun _ => ?_) (fun _ => ?_)
                  · exact x_sub (x_le_s rfl (x_le_s rfl (x_le_s rfl (x_le_n (x_le_s rfl (x_le_n (x_le_n x_le_e))))))) (hj43 () _)
                  · refine x_iload dX7_isZone_72 rfl ?_
                    refine x_iload_n dX7_isZone_74 rfl rfl ?_
                    refine x_icmp_lt 82 dX7_isZone_75 (by decide) (fun _ => ?_) (fun _ => ?_)
                    · exact x_sub (x_le_s rfl (x_le_s rfl (x_le_s rfl (x_le_n (x_le_s rfl (x_le_n (x_le_n x_le_e))))))) (hj37 () _)
                    · exact x_sub (x_le_s rfl (x_le_s rfl (x_le_s rfl (x_le_n (x_le_s rfl (x_le_n (x_le_n x_le_e))))))) (hj43 () _)
              · refine x_if_eq 66 dX7_isZone_57 (by decide) (fun _ => ?_) (fun _ => ?_)
                · exact x_sub (x_le_s rfl (x_le_s rfl (x_le_s rfl (x_le_n (x_le_s rfl (x_le_s rfl (x_le_n x_le_e))))))) (hj40 () _)
                · refine x_iload dX7_isZone_60 rfl ?_
                  refine x_iload_n dX7_isZone_62 rfl rfl ?_
                  refine x_icmp_ne 82 dX7_isZone_63 (by decide) (fun _ => ?_) (fun _ => ?_)
                  · exact x_sub (x_le_s rfl (x_le_s rfl (x_le_s rfl (x_le_n (x_le_s rfl (x_le_n (x_le_n x_le_e))))))) (hj37 () _)
                  · exact x_sub (x_le_s rfl (x_le_s rfl (x_le_s rfl (x_le_n (x_le_s rfl (x_le_s rfl (x_le_n x_le_e))))))) (hj40 () _)
      · refine x_icmp_ne 48 dX7_isZone_41 (by decide) (fun _ => ?_) (fun _ => ?_)
        · refine x_iconst (v := 0) dX7_isZone_48 rfl ?_
          exact x_sub (x_le_s rfl (x_le_s rfl (x_le_s rfl (x_le_s rfl (x_le_s rfl (x_le_s rfl (x_le_n x_le_e))))))) (hj10 0 _)
        · refine x_iconst (v := 1) dX7_isZone_44 rfl ?_
          refine x_goto 49 dX7_isZone_45 (by decide) ?_
          exact x_sub (x_le_s rfl (x_le_s rfl (x_le_s rfl (x_le_s rfl (x_le_s rfl (x_le_s rfl (x_le_n x_le_e))))))) (hj10 1 _)

theorem c_X7_isZone (a1 : Int32) (σ : xSt) : CON κi yX7_isZone m_X7_isZone false 3 shM [.ref 0, .int a1] σ (f_X7_isZone a1 σ) := by
  refine x_con (L := [some (.ref 0), some (.int a1), none, none, none, none, none]) (by decide) rfl rfl rfl ?_
  unfold f_X7_isZone
  refine x_aload_n dX7_isZone_0 rfl rfl ?_
  refine x_iload_n dX7_isZone_1 rfl rfl ?_
  refine x_callV1i dX7_isZone_2 lc_RX7_206 (c_X7_netsIn _ _) rfl rfl rfl rfl rfl (fun r1 s2 => ?_)
  refine x_istore_n dX7_isZone_5 rfl rfl rfl ?_
  refine x_iload_n dX7_isZone_6 rfl rfl ?_
  refine x_jn 15 (fun (v3 : Int32) => [some (.ref 0), some (.int a1), some (.int r1), none, none, none, none]) (fun (v3 : Int32) => [.int v3]) (fun v3 s4 => ?_) (fun j5 hj5 => ?_)
  · refine x_istore_n dX7_isZone_15 rfl rfl rfl ?_
    refine x_iconst (v := 0) dX7_isZone_16 rfl ?_
    refine x_istore dX7_isZone_17 rfl rfl ?_
    refine x_sub (x_le_s rfl (x_le_s rfl (x_le_s rfl (x_le_s rfl (x_le_s rfl (x_le_n (x_le_n x_le_e))))))) (t_X7_isZone_19 _ _ _ (fun e44 s45 => ?_) FU _ _ _)
    refine x_iload_n dX7_isZone_90 rfl rfl ?_
    exact x_zret dX7_isZone_91 rfl
  · refine x_if_eq 14 dX7_isZone_7 (by decide) (fun _ => ?_) (fun _ => ?_)
    · refine x_iconst (v := 0) dX7_isZone_14 rfl ?_
      exact x_sub (x_le_s rfl (x_le_s rfl (x_le_s rfl (x_le_n (x_le_n (x_le_n (x_le_n x_le_e))))))) (hj5 0 _)
    · refine x_iconst (v := 1) dX7_isZone_10 rfl ?_
      refine x_goto 15 dX7_isZone_11 (by decide) ?_
      exact x_sub (x_le_s rfl (x_le_s rfl (x_le_s rfl (x_le_n (x_le_n (x_le_n (x_le_n x_le_e))))))) (hj5 1 _)

theorem t_X7_zones_4 (w1 : Int32) (k : Int32 → xSt → Option (Int32 × xSt)) (hk : ∀ (w2 : Int32) (σ : xSt), XP κi false m_X7_zones 4 shM 40 [none, some (.int w1), some (.int w2), none] [] σ (k w2 σ)) : ∀ (n : Nat) (w2 : Int32) (w3 : Int32) (σ : xSt), XP κi false m_X7_zones 4 shM 4 [some (.ref 0), some (.int w1), some (.int w2), some (.int w3)] [] σ (f_X7_zones_4 w1 k n w2 w3 σ) := by
  intro n
  induction n with
  | zero => intro w2 w3 σ; exact x_none
  | succ n ih =>
    intro w2 w3 σ
    rw [f_X7_zones_4]
    refine x_iload_n dX7_zones_4 rfl rfl ?_
    refine x_aload_n dX7_zones_5 rfl rfl ?_
    refine x_getI dX7_zones_6 lk_RX7_87 rfl rfl ?_
    refine x_icmp_ge 40 dX7_zones_9 (by decide) (fun _ => ?_) (fun _ => ?_)
    · exact x_sub (x_le_n (x_le_s rfl (x_le_s rfl (x_le_n x_le_e)))) (hk _ _)
    · refine x_aload_n dX7_zones_12 rfl rfl ?_
      refine x_iload_n dX7_zones_13 rfl rfl ?_
      refine x_callV1i dX7_zones_14 lc_RX7_209 (c_X7_isZone _ _) rfl rfl rfl rfl rfl (fun r1 s2 => ?_)
      refine x_jn 34 (fun (v5 : Int32) => [some (.ref 0), some (.int w1), some (.int v5), some (.int w3)]) (fun (v5 : Int32) => []) (fun v5 s6 => ?_) (fun j7 hj7 => ?_)
      · refine x_iinc dX7_zones_34 rfl rfl rfl rfl ?_
        refine x_goto 4 dX7_zones_37 (by decide) ?_
        exact x_sub (x_le_s rfl (x_le_s rfl (x_le_s rfl (x_le_s rfl x_le_e)))) (ih _ _ _)
      · refine x_if_eq 34 dX7_zones_17 (by decide) (fun _ => ?_) (fun _ => ?_)
        · exact x_sub (x_le_s rfl (x_le_s rfl (x_le_s rfl (x_le_s rfl x_le_e)))) (hj7 w2 _)
        · refine x_iload_n dX7_zones_20 rfl rfl ?_
          refine x_iload_n dX7_zones_21 rfl rfl ?_
          refine x_icmp_ne 31 dX7_zones_22 (by decide) (fun _ => ?_) (fun _ => ?_)
          · refine x_iinc dX7_zones_31 rfl rfl rfl rfl ?_
            exact x_sub (x_le_s rfl (x_le_s rfl (x_le_s rfl (x_le_s rfl x_le_e)))) (hj7 (w2 + 1) _)
          · refine x_aload_n dX7_zones_25 rfl rfl ?_
            refine x_iload_n dX7_zones_26 rfl rfl ?_
            refine x_callV1i dX7_zones_27 lc_RX7_206 (c_X7_netsIn _ _) rfl rfl rfl rfl rfl (fun r8 s9 => ?_)
            exact x_iret dX7_zones_30 rfl

theorem c_X7_zones (a1 : Int32) (σ : xSt) : CON κi yX7_zones m_X7_zones false 4 shM [.ref 0, .int a1] σ (f_X7_zones a1 σ) := by
  refine x_con (L := [some (.ref 0), some (.int a1), none, none]) (by decide) rfl rfl rfl ?_
  unfold f_X7_zones
  refine x_iconst (v := 0) dX7_zones_0 rfl ?_
  refine x_istore_n dX7_zones_1 rfl rfl rfl ?_
  refine x_iconst (v := 0) dX7_zones_2 rfl ?_
  refine x_istore_n dX7_zones_3 rfl rfl rfl ?_
  refine x_sub (x_le_s rfl (x_le_s rfl (x_le_s rfl (x_le_s rfl x_le_e)))) (t_X7_zones_4 _ _ (fun e10 s11 => ?_) FU _ _ _)
  refine x_iload_n dX7_zones_40 rfl rfl ?_
  refine x_iconst (v := -1) dX7_zones_41 rfl ?_
  refine x_jn 50 (fun (v12 : Int32) => [none, none, none, none]) (fun (v12 : Int32) => [.int v12]) (fun v12 s13 => ?_) (fun j14 hj14 => ?_)
  · exact x_iret dX7_zones_50 rfl
  · refine x_icmp_ne 49 dX7_zones_42 (by decide) (fun _ => ?_) (fun _ => ?_)
    · refine x_iconst (v := -1) dX7_zones_49 rfl ?_
      exact x_sub (x_le_n (x_le_n (x_le_n (x_le_n x_le_e)))) (hj14 (-1) _)
    · refine x_iload_n dX7_zones_45 rfl rfl ?_
      refine x_goto 50 dX7_zones_46 (by decide) ?_
      exact x_sub (x_le_n (x_le_n (x_le_n (x_le_n x_le_e)))) (hj14 e10 _)

theorem t_X7_levelOf_2 (w1 : Int32) (k : xSt → Option (Int32 × xSt)) (hk : ∀ (σ : xSt), XP κi false m_X7_levelOf 1 shM 23 [some (.ref 0), some (.int w1), none, none, none, none] [] σ (k  σ)) : ∀ (n : Nat) (w2 : Int32) (σ : xSt), XP κi false m_X7_levelOf 1 shM 2 [some (.ref 0), some (.int w1), some (.int w2), none, none, none] [] σ (f_X7_levelOf_2 k n w2 σ) := by
  intro n
  induction n with
  | zero => intro w2 σ; exact x_none
  | succ n ih =>
    intro w2 σ
    rw [f_X7_levelOf_2]
    refine x_iload_n dX7_levelOf_2 rfl rfl ?_
    refine x_aload_n dX7_levelOf_3 rfl rfl ?_
    refine x_getI dX7_levelOf_4 lk_RX7_130 rfl rfl ?_
    refine x_icmp_ge 23 dX7_levelOf_7 (by decide) (fun _ => ?_) (fun _ => ?_)
    · exact x_sub (x_le_s rfl (x_le_s rfl (x_le_n (x_le_n (x_le_n (x_le_n x_le_e)))))) (hk  _)
    · refine x_aload_n dX7_levelOf_10 rfl rfl ?_
      refine x_getR dX7_levelOf_11 lk_RX7_40 rfl rfl ?_
      refine x_iload_n dX7_levelOf_14 rfl rfl ?_
      refine x_iconst (v := 0) dX7_levelOf_15 rfl ?_
      refine x_iastB dX7_levelOf_16 rfl (fun s1 => ?_)
      refine x_iinc dX7_levelOf_17 rfl rfl rfl rfl ?_
      refine x_goto 2 dX7_levelOf_20 (by decide) ?_
      exact x_sub (x_le_s rfl (x_le_s rfl (x_le_s rfl (x_le_n (x_le_n (x_le_n x_le_e)))))) (ih _ _)

theorem t_X7_levelOf_46 (w3 : Int32) (w1 : Int32) (w2 : Int32) (k : xSt → Option (Int32 × xSt)) (hk : ∀ (σ : xSt), XP κi false m_X7_levelOf 1 shM 128 [some (.ref 0), some (.int w1), some (.int w2), some (.int w3), none, none] [] σ (k  σ)) : ∀ (n : Nat) (w4 : Int32) (σ : xSt), XP κi false m_X7_levelOf 1 shM 46 [some (.ref 0), some (.int w1), some (.int w2), some (.int w3), some (.int w4), none] [] σ (f_X7_levelOf_46 w3 k n w4 σ) := by
  intro n
  induction n with
  | zero => intro w4 σ; exact x_none
  | succ n ih =>
    intro w4 σ
    rw [f_X7_levelOf_46]
    refine x_iload dX7_levelOf_46 rfl ?_
    refine x_aload_n dX7_levelOf_48 rfl rfl ?_
    refine x_getI dX7_levelOf_49 lk_RX7_130 rfl rfl ?_
    refine x_icmp_ge 128 dX7_levelOf_52 (by decide) (fun _ => ?_) (fun _ => ?_)
    · exact x_sub (x_le_s rfl (x_le_s rfl (x_le_s rfl (x_le_s rfl (x_le_n (x_le_n x_le_e)))))) (hk  _)
    · refine x_aload_n dX7_levelOf_55 rfl rfl ?_
      refine x_getR dX7_levelOf_56 lk_RX7_25 rfl rfl ?_
      refine x_iload_n dX7_levelOf_59 rfl rfl ?_
      refine x_iald dX7_levelOf_60 rfl ?_
      refine x_iload dX7_levelOf_61 rfl ?_
      refine x_callS2i dX7_levelOf_63 lc_RX7_43 (c_X7_isBit _ _ _) rfl rfl (fun r3 s4 => ?_)
      refine x_jn 90 (fun (v8 : Int32) => [some (.ref 0), some (.int w1), some (.int w2), some (.int w3), some (.int w4), none]) (fun (v8 : Int32) => [.int v8]) (fun v8 s9 => ?_) (fun j10 hj10 => ?_)
      · refine x_istore dX7_levelOf_90 rfl rfl ?_
        refine x_aload_n dX7_levelOf_92 rfl rfl ?_
        refine x_getR dX7_levelOf_93 lk_RX7_40 rfl rfl ?_
        refine x_iload dX7_levelOf_96 rfl ?_
        refine x_iload dX7_levelOf_98 rfl ?_
        refine x_jn 121 (fun (v11 : Int32) => [some (.ref 0), some (.int w1), some (.int w2), some (.int w3), some (.int w4), none]) (fun (v11 : Int32) => [.int v11, .int w4, .ref 11]) (fun v11 s12 => ?_) (fun j13 hj13 => ?_)
        · refine x_iastB dX7_levelOf_121 rfl (fun s14 => ?_)
          refine x_iinc dX7_levelOf_122 rfl rfl rfl rfl ?_
          refine x_goto 46 dX7_levelOf_125 (by decide) ?_
          exact x_sub (x_le_s rfl (x_le_s rfl (x_le_s rfl (x_le_s rfl (x_le_s rfl (x_le_n x_le_e)))))) (ih _ _)
        · refine x_if_eq 114 dX7_levelOf_100 (by decide) (fun _ => ?_) (fun _ => ?_)
          · refine x_aload_n dX7_levelOf_114 rfl rfl ?_
            refine x_getR dX7_levelOf_115 lk_RX7_40 rfl rfl ?_
            refine x_iload dX7_levelOf_118 rfl ?_
            refine x_iald dX7_levelOf_120 rfl ?_
            exact x_sub (x_le_s rfl (x_le_s rfl (x_le_s rfl (x_le_s rfl (x_le_s rfl (x_le_n x_le_e)))))) (hj13 (s9.1 11 w4.toNatClampNeg) _)
          · refine x_aload_n dX7_levelOf_103 rfl rfl ?_
            refine x_getR dX7_levelOf_104 lk_RX7_40 rfl rfl ?_
            refine x_iload_n dX7_levelOf_107 rfl rfl ?_
            refine x_iald dX7_levelOf_108 rfl ?_
            refine x_iconst (v := 1) dX7_levelOf_109 rfl ?_
            refine x_iadd dX7_levelOf_110 ?_
            refine x_goto 121 dX7_levelOf_111 (by decide) ?_
            exact x_sub (x_le_s rfl (x_le_s rfl (x_le_s rfl (x_le_s rfl (x_le_s rfl (x_le_n x_le_e)))))) (hj13 ((s9.1 11 w3.toNatClampNeg) + 1) _)
      · refine x_jn 89 (fun (v15 : Unit) => [some (.ref 0), some (.int w1), some (.int w2), some (.int w3), some (.int w4), none]) (fun (v15 : Unit) => []) (fun v15 s16 => ?_) (fun j17 hj17 => ?_)
        · refine x_iconst (v := 0) dX7_levelOf_89 rfl ?_
          exact x_sub (x_le_s rfl (x_le_s rfl (x_le_s rfl (x_le_s rfl (x_le_s rfl (x_le_n x_le_e)))))) (hj10 0 _)
        · refine x_if_eq 89 dX7_levelOf_66 (by decide) (fun _ => ?_) (fun _ => ?_)
          · exact x_sub (x_le_s rfl (x_le_s rfl (x_le_s rfl (x_le_s rfl (x_le_s rfl (x_le_n x_le_e)))))) (hj17 () _)
          · refine x_aload_n dX7_levelOf_69 rfl rfl ?_
            refine x_getR dX7_levelOf_70 lk_RX7_40 rfl rfl ?_
            refine x_iload dX7_levelOf_73 rfl ?_
            refine x_iald dX7_levelOf_75 rfl ?_
            refine x_aload_n dX7_levelOf_76 rfl rfl ?_
            refine x_getR dX7_levelOf_77 lk_RX7_40 rfl rfl ?_
            refine x_iload_n dX7_levelOf_80 rfl rfl ?_
            refine x_iald dX7_levelOf_81 rfl ?_
            refine x_icmp_gt 89 dX7_levelOf_82 (by decide) (fun _ => ?_) (fun _ => ?_)
            · exact x_sub (x_le_s rfl (x_le_s rfl (x_le_s rfl (x_le_s rfl (x_le_s rfl (x_le_n x_le_e)))))) (hj17 () _)
            · refine x_iconst (v := 1) dX7_levelOf_85 rfl ?_
              refine x_goto 90 dX7_levelOf_86 (by decide) ?_
              exact x_sub (x_le_s rfl (x_le_s rfl (x_le_s rfl (x_le_s rfl (x_le_s rfl (x_le_n x_le_e)))))) (hj10 1 _)

theorem t_X7_levelOf_35 (w1 : Int32) (w2 : Int32) (k : xSt → Option (Int32 × xSt)) (hk : ∀ (σ : xSt), XP κi false m_X7_levelOf 1 shM 134 [some (.ref 0), some (.int w1), some (.int w2), none, none, none] [] σ (k  σ)) : ∀ (n : Nat) (w3 : Int32) (σ : xSt), XP κi false m_X7_levelOf 1 shM 35 [some (.ref 0), some (.int w1), some (.int w2), some (.int w3), none, none] [] σ (f_X7_levelOf_35 k n w3 σ) := by
  intro n
  induction n with
  | zero => intro w3 σ; exact x_none
  | succ n ih =>
    intro w3 σ
    rw [f_X7_levelOf_35]
    refine x_iload_n dX7_levelOf_35 rfl rfl ?_
    refine x_aload_n dX7_levelOf_36 rfl rfl ?_
    refine x_getI dX7_levelOf_37 lk_RX7_130 rfl rfl ?_
    refine x_icmp_ge 134 dX7_levelOf_40 (by decide) (fun _ => ?_) (fun _ => ?_)
    · exact x_sub (x_le_s rfl (x_le_s rfl (x_le_s rfl (x_le_n (x_le_n (x_le_n x_le_e)))))) (hk  _)
    · refine x_iconst (v := 0) dX7_levelOf_43 rfl ?_
      refine x_istore dX7_levelOf_44 rfl rfl ?_
      refine x_sub (x_le_s rfl (x_le_s rfl (x_le_s rfl (x_le_s rfl (x_le_s rfl (x_le_n x_le_e)))))) (t_X7_levelOf_46 _ _ _ _ (fun  s18 => ?_) FU _ _)
      refine x_iinc dX7_levelOf_128 rfl rfl rfl rfl ?_
      refine x_goto 35 dX7_levelOf_131 (by decide) ?_
      exact x_sub (x_le_s rfl (x_le_s rfl (x_le_s rfl (x_le_s rfl (x_le_n (x_le_n x_le_e)))))) (ih _ _)

theorem t_X7_levelOf_25 (w1 : Int32) (k : xSt → Option (Int32 × xSt)) (hk : ∀ (σ : xSt), XP κi false m_X7_levelOf 1 shM 140 [some (.ref 0), some (.int w1), none, none, none, none] [] σ (k  σ)) : ∀ (n : Nat) (w2 : Int32) (σ : xSt), XP κi false m_X7_levelOf 1 shM 25 [some (.ref 0), some (.int w1), some (.int w2), none, none, none] [] σ (f_X7_levelOf_25 k n w2 σ) := by
  intro n
  induction n with
  | zero => intro w2 σ; exact x_none
  | succ n ih =>
    intro w2 σ
    rw [f_X7_levelOf_25]
    refine x_iload_n dX7_levelOf_25 rfl rfl ?_
    refine x_aload_n dX7_levelOf_26 rfl rfl ?_
    refine x_getI dX7_levelOf_27 lk_RX7_130 rfl rfl ?_
    refine x_icmp_ge 140 dX7_levelOf_30 (by decide) (fun _ => ?_) (fun _ => ?_)
    · exact x_sub (x_le_s rfl (x_le_s rfl (x_le_n (x_le_n (x_le_n (x_le_n x_le_e)))))) (hk  _)
    · refine x_iconst (v := 0) dX7_levelOf_33 rfl ?_
      refine x_istore_n dX7_levelOf_34 rfl rfl rfl ?_
      refine x_sub (x_le_s rfl (x_le_s rfl (x_le_s rfl (x_le_s rfl (x_le_n (x_le_n x_le_e)))))) (t_X7_levelOf_35 _ _ _ (fun  s19 => ?_) FU _ _)
      refine x_iinc dX7_levelOf_134 rfl rfl rfl rfl ?_
      refine x_goto 25 dX7_levelOf_137 (by decide) ?_
      exact x_sub (x_le_s rfl (x_le_s rfl (x_le_s rfl (x_le_n (x_le_n (x_le_n x_le_e)))))) (ih _ _)

theorem c_X7_levelOf (a1 : Int32) (σ : xSt) : CON κi yX7_levelOf m_X7_levelOf false 1 shM [.ref 0, .int a1] σ (f_X7_levelOf a1 σ) := by
  refine x_con (L := [some (.ref 0), some (.int a1), none, none, none, none]) (by decide) rfl rfl rfl ?_
  unfold f_X7_levelOf
  refine x_iconst (v := 0) dX7_levelOf_0 rfl ?_
  refine x_istore_n dX7_levelOf_1 rfl rfl rfl ?_
  refine x_sub (x_le_s rfl (x_le_s rfl (x_le_s rfl (x_le_n (x_le_n (x_le_n x_le_e)))))) (t_X7_levelOf_2 _ _ (fun  s2 => ?_) FU _ _)
  refine x_iconst (v := 0) dX7_levelOf_23 rfl ?_
  refine x_istore_n dX7_levelOf_24 rfl rfl rfl ?_
  refine x_sub (x_le_s rfl (x_le_s rfl (x_le_s rfl (x_le_n (x_le_n (x_le_n x_le_e)))))) (t_X7_levelOf_25 _ _ (fun  s20 => ?_) FU _ _)
  refine x_aload_n dX7_levelOf_140 rfl rfl ?_
  refine x_getR dX7_levelOf_141 lk_RX7_40 rfl rfl ?_
  refine x_iload_n dX7_levelOf_144 rfl rfl ?_
  refine x_iald dX7_levelOf_145 rfl ?_
  exact x_iret dX7_levelOf_146 rfl

theorem c_X7_level (a1 : Int32) (σ : xSt) : CON κi yX7_level m_X7_level false 2 shM [.ref 0, .int a1] σ (f_X7_level a1 σ) := by
  refine x_con (L := [some (.ref 0), some (.int a1)]) (by decide) rfl rfl rfl ?_
  unfold f_X7_level
  refine x_aload_n dX7_level_0 rfl rfl ?_
  refine x_getI dX7_level_1 lk_RX7_156 rfl rfl ?_
  refine x_if_le 9 dX7_level_4 (by decide) (fun _ => ?_) (fun _ => ?_)
  · refine x_aload_n dX7_level_9 rfl rfl ?_
    refine x_iload_n dX7_level_10 rfl rfl ?_
    refine x_callV1i dX7_level_11 lc_RX7_212 (c_X7_levelOf _ _) rfl rfl rfl rfl rfl (fun r1 s2 => ?_)
    exact x_iret dX7_level_14 rfl
  · refine x_iconst (v := -1) dX7_level_7 rfl ?_
    exact x_iret dX7_level_8 rfl

theorem t_X7_chain_4 (k : Int32 → xSt → Option (Int32 × xSt)) (hk : ∀ (w1 : Int32) (σ : xSt), XP κi false m_X7_chain 3 shM 37 [some (.ref 0), some (.int w1), none, none] [] σ (k w1 σ)) : ∀ (n : Nat) (w1 : Int32) (w2 : Int32) (σ : xSt), XP κi false m_X7_chain 3 shM 4 [some (.ref 0), some (.int w1), some (.int w2), none] [] σ (f_X7_chain_4 k n w1 w2 σ) := by
  intro n
  induction n with
  | zero => intro w1 w2 σ; exact x_none
  | succ n ih =>
    intro w1 w2 σ
    rw [f_X7_chain_4]
    refine x_iload_n dX7_chain_4 rfl rfl ?_
    refine x_aload_n dX7_chain_5 rfl rfl ?_
    refine x_getI dX7_chain_6 lk_RX7_130 rfl rfl ?_
    refine x_icmp_ge 37 dX7_chain_9 (by decide) (fun _ => ?_) (fun _ => ?_)
    · exact x_sub (x_le_s rfl (x_le_s rfl (x_le_n (x_le_n x_le_e)))) (hk _ _)
    · refine x_aload_n dX7_chain_12 rfl rfl ?_
      refine x_iload_n dX7_chain_13 rfl rfl ?_
      refine x_callV1i dX7_chain_14 lc_RX7_215 (c_X7_level _ _) rfl rfl rfl rfl rfl (fun r1 s2 => ?_)
      refine x_iconst (v := 1) dX7_chain_17 rfl ?_
      refine x_iadd dX7_chain_18 ?_
      refine x_istore_nB dX7_chain_19 rfl rfl rfl (fun x3 => ?_)
      refine x_iload_n dX7_chain_20 rfl rfl ?_
      refine x_iload_n dX7_chain_21 rfl rfl ?_
      refine x_jn 30 (fun (v4 : Int32) => [some (.ref 0), none, some (.int w2), none]) (fun (v4 : Int32) => [.int v4]) (fun v4 s5 => ?_) (fun j6 hj6 => ?_)
      · refine x_istore_n dX7_chain_30 rfl rfl rfl ?_
        refine x_iinc dX7_chain_31 rfl rfl rfl rfl ?_
        refine x_goto 4 dX7_chain_34 (by decide) ?_
        exact x_sub (x_le_s rfl (x_le_s rfl (x_le_s rfl (x_le_n x_le_e)))) (ih _ _ _)
      · refine x_icmp_le 29 dX7_chain_22 (by decide) (fun _ => ?_) (fun _ => ?_)
        · refine x_iload_n dX7_chain_29 rfl rfl ?_
          exact x_sub (x_le_s rfl (x_le_n (x_le_s rfl (x_le_n x_le_e)))) (hj6 w1 _)
        · refine x_iload_n dX7_chain_25 rfl rfl ?_
          refine x_goto 30 dX7_chain_26 (by decide) ?_
          exact x_sub (x_le_s rfl (x_le_n (x_le_s rfl (x_le_n x_le_e)))) (hj6 x3 _)

theorem c_X7_chain (σ : xSt) : CON κi yX7_chain m_X7_chain false 3 shM [.ref 0] σ (f_X7_chain σ) := by
  refine x_con (L := [some (.ref 0), none, none, none]) (by decide) rfl rfl rfl ?_
  unfold f_X7_chain
  refine x_iconst (v := 0) dX7_chain_0 rfl ?_
  refine x_istore_n dX7_chain_1 rfl rfl rfl ?_
  refine x_iconst (v := 0) dX7_chain_2 rfl ?_
  refine x_istore_n dX7_chain_3 rfl rfl rfl ?_
  refine x_sub (x_le_s rfl (x_le_s rfl (x_le_s rfl (x_le_n x_le_e)))) (t_X7_chain_4 _ (fun e7 s8 => ?_) FU _ _ _)
  refine x_aload_n dX7_chain_37 rfl rfl ?_
  refine x_getI dX7_chain_38 lk_RX7_156 rfl rfl ?_
  refine x_jn 49 (fun (v9 : Int32) => [none, none, none, none]) (fun (v9 : Int32) => [.int v9]) (fun v9 s10 => ?_) (fun j11 hj11 => ?_)
  · exact x_iret dX7_chain_49 rfl
  · refine x_if_le 48 dX7_chain_41 (by decide) (fun _ => ?_) (fun _ => ?_)
    · refine x_iload_n dX7_chain_48 rfl rfl ?_
      exact x_sub (x_le_n (x_le_n (x_le_n (x_le_n x_le_e)))) (hj11 e7 _)
    · refine x_iconst (v := -1) dX7_chain_44 rfl ?_
      refine x_goto 49 dX7_chain_45 (by decide) ?_
      exact x_sub (x_le_n (x_le_n (x_le_n (x_le_n x_le_e)))) (hj11 (-1) _)

theorem t_X7_breakBy_2 (w1 : Int32) (k : xSt → Option (Int32 × xSt)) (hk : ∀ (σ : xSt), XP κi false m_X7_breakBy 5 shM 36 [none, none, none] [] σ (k  σ)) : ∀ (n : Nat) (w2 : Int32) (σ : xSt), XP κi false m_X7_breakBy 5 shM 2 [some (.ref 0), some (.int w1), some (.int w2)] [] σ (f_X7_breakBy_2 w1 k n w2 σ) := by
  intro n
  induction n with
  | zero => intro w2 σ; exact x_none
  | succ n ih =>
    intro w2 σ
    rw [f_X7_breakBy_2]
    refine x_iload_n dX7_breakBy_2 rfl rfl ?_
    refine x_bipush (v := 64) dX7_breakBy_3 rfl ?_
    refine x_icmp_ge 36 dX7_breakBy_5 (by decide) (fun _ => ?_) (fun _ => ?_)
    · exact x_sub (x_le_n (x_le_n (x_le_n x_le_e))) (hk  _)
    · refine x_iload_n dX7_breakBy_8 rfl rfl ?_
      refine x_callS1i dX7_breakBy_9 lc_RX7_191 (c_X7_size _ _) rfl rfl (fun r1 s2 => ?_)
      refine x_iload_n dX7_breakBy_12 rfl rfl ?_
      refine x_jn 30 (fun (v7 : Unit) => [some (.ref 0), some (.int w1), some (.int w2)]) (fun (v7 : Unit) => []) (fun v7 s8 => ?_) (fun j9 hj9 => ?_)
      · refine x_iinc dX7_breakBy_30 rfl rfl rfl rfl ?_
        refine x_goto 2 dX7_breakBy_33 (by decide) ?_
        exact x_sub (x_le_s rfl (x_le_s rfl (x_le_s rfl x_le_e))) (ih _ _)
      · refine x_icmp_ne 30 dX7_breakBy_13 (by decide) (fun _ => ?_) (fun _ => ?_)
        · exact x_sub (x_le_s rfl (x_le_s rfl (x_le_s rfl x_le_e))) (hj9 () _)
        · refine x_aload_n dX7_breakBy_16 rfl rfl ?_
          refine x_iload_n dX7_breakBy_17 rfl rfl ?_
          refine x_callV1v dX7_breakBy_18 lc_RX7_169 (c_X7_laySegments _ _) rfl rfl rfl rfl rfl (fun r10 s11 => ?_)
          refine x_aload_n dX7_breakBy_21 rfl rfl ?_
          refine x_callV0i dX7_breakBy_22 lc_RX7_162 (c_X7_isRing _) rfl rfl rfl rfl rfl (fun r12 s13 => ?_)
          refine x_if_ne 30 dX7_breakBy_25 (by decide) (fun _ => ?_) (fun _ => ?_)
          · exact x_sub (x_le_s rfl (x_le_s rfl (x_le_s rfl x_le_e))) (hj9 () _)
          · refine x_iload_n dX7_breakBy_28 rfl rfl ?_
            exact x_iret dX7_breakBy_29 rfl

theorem c_X7_breakBy (a1 : Int32) (σ : xSt) : CON κi yX7_breakBy m_X7_breakBy false 5 shM [.ref 0, .int a1] σ (f_X7_breakBy a1 σ) := by
  refine x_con (L := [some (.ref 0), some (.int a1), none]) (by decide) rfl rfl rfl ?_
  unfold f_X7_breakBy
  refine x_iconst (v := 0) dX7_breakBy_0 rfl ?_
  refine x_istore_n dX7_breakBy_1 rfl rfl rfl ?_
  refine x_sub (x_le_s rfl (x_le_s rfl (x_le_s rfl x_le_e))) (t_X7_breakBy_2 _ _ (fun  s14 => ?_) FU _ _)
  refine x_iconst (v := -1) dX7_breakBy_36 rfl ?_
  exact x_iret dX7_breakBy_37 rfl

theorem t_X7_breakNow_4 (k : Int32 → xSt → Option (Int32 × xSt)) (hk : ∀ (w1 : Int32) (σ : xSt), XP κi false m_X7_breakNow 6 shM 27 [some (.ref 0), some (.int w1), none] [] σ (k w1 σ)) : ∀ (n : Nat) (w1 : Int32) (w2 : Int32) (σ : xSt), XP κi false m_X7_breakNow 6 shM 4 [some (.ref 0), some (.int w1), some (.int w2)] [] σ (f_X7_breakNow_4 k n w1 w2 σ) := by
  intro n
  induction n with
  | zero => intro w1 w2 σ; exact x_none
  | succ n ih =>
    intro w1 w2 σ
    rw [f_X7_breakNow_4]
    refine x_iload_n dX7_breakNow_4 rfl rfl ?_
    refine x_bipush (v := 6) dX7_breakNow_5 rfl ?_
    refine x_icmp_gt 27 dX7_breakNow_7 (by decide) (fun _ => ?_) (fun _ => ?_)
    · exact x_sub (x_le_s rfl (x_le_s rfl (x_le_n x_le_e))) (hk _ _)
    · refine x_iload_n dX7_breakNow_10 rfl rfl ?_
      refine x_iconst (v := -1) dX7_breakNow_11 rfl ?_
      refine x_icmp_ne 27 dX7_breakNow_12 (by decide) (fun _ => ?_) (fun _ => ?_)
      · exact x_sub (x_le_s rfl (x_le_s rfl (x_le_n x_le_e))) (hk _ _)
      · refine x_aload_n dX7_breakNow_15 rfl rfl ?_
        refine x_iload_n dX7_breakNow_16 rfl rfl ?_
        refine x_callV1i dX7_breakNow_17 lc_RX7_218 (c_X7_breakBy _ _) rfl rfl rfl rfl rfl (fun r1 s2 => ?_)
        refine x_istore_n dX7_breakNow_20 rfl rfl rfl ?_
        refine x_iinc dX7_breakNow_21 rfl rfl rfl rfl ?_
        refine x_goto 4 dX7_breakNow_24 (by decide) ?_
        exact x_sub (x_le_s rfl (x_le_s rfl (x_le_s rfl x_le_e))) (ih _ _ _)

theorem c_X7_breakNow (σ : xSt) : CON κi yX7_breakNow m_X7_breakNow false 6 shM [.ref 0] σ (f_X7_breakNow σ) := by
  refine x_con (L := [some (.ref 0), none, none]) (by decide) rfl rfl rfl ?_
  unfold f_X7_breakNow
  refine x_iconst (v := -1) dX7_breakNow_0 rfl ?_
  refine x_istore_n dX7_breakNow_1 rfl rfl rfl ?_
  refine x_iconst (v := 0) dX7_breakNow_2 rfl ?_
  refine x_istore_n dX7_breakNow_3 rfl rfl rfl ?_
  refine x_sub (x_le_s rfl (x_le_s rfl (x_le_s rfl x_le_e))) (t_X7_breakNow_4 _ (fun e3 s4 => ?_) FU _ _ _)
  refine x_aload_n dX7_breakNow_27 rfl rfl ?_
  refine x_aload_n dX7_breakNow_28 rfl rfl ?_
  refine x_getI dX7_breakNow_29 lk_RX7_93 rfl rfl ?_
  refine x_callV1v dX7_breakNow_32 lc_RX7_169 (c_X7_laySegments _ _) rfl rfl rfl rfl rfl (fun r5 s6 => ?_)
  refine x_iload_n dX7_breakNow_35 rfl rfl ?_
  exact x_iret dX7_breakNow_36 rfl

theorem c_X7_aboutNow (a1 : Int32) (σ : xSt) : CON κi yX7_aboutNow m_X7_aboutNow false 7 shM [.ref 0, .int a1] σ (f_X7_aboutNow a1 σ) := by
  refine x_con (L := [some (.ref 0), some (.int a1)]) (by decide) rfl rfl rfl ?_
  unfold f_X7_aboutNow
  refine x_iload_n dX7_aboutNow_0 rfl rfl ?_
  refine x_ite (fun c1 => ?_) (fun c1 => ?_)
  · refine x_tabI 52 dX7_aboutNow_1 c1 (by decide) (by decide) rfl (by decide) ?_
    refine x_aload_n dX7_aboutNow_52 rfl rfl ?_
    refine x_getI dX7_aboutNow_53 lk_RX7_87 rfl rfl ?_
    exact x_iret dX7_aboutNow_56 rfl
  refine x_ite (fun c2 => ?_) (fun c2 => ?_)
  · refine x_tabI 57 dX7_aboutNow_1 c2 (by decide) (by decide) rfl (by decide) ?_
    refine x_aload_n dX7_aboutNow_57 rfl rfl ?_
    refine x_getI dX7_aboutNow_58 lk_RX7_130 rfl rfl ?_
    exact x_iret dX7_aboutNow_61 rfl
  refine x_ite (fun c5 => ?_) (fun c5 => ?_)
  · refine x_tabI 62 dX7_aboutNow_1 c5 (by decide) (by decide) rfl (by decide) ?_
    refine x_aload_n dX7_aboutNow_62 rfl rfl ?_
    refine x_callV0i dX7_aboutNow_63 lc_RX7_221 (c_X7_density _) rfl rfl rfl rfl rfl (fun r3 s4 => ?_)
    exact x_iret dX7_aboutNow_66 rfl
  refine x_ite (fun c8 => ?_) (fun c8 => ?_)
  · refine x_tabI 67 dX7_aboutNow_1 c8 (by decide) (by decide) rfl (by decide) ?_
    refine x_aload_n dX7_aboutNow_67 rfl rfl ?_
    refine x_callV0i dX7_aboutNow_68 lc_RX7_224 (c_X7_chain _) rfl rfl rfl rfl rfl (fun r6 s7 => ?_)
    exact x_iret dX7_aboutNow_71 rfl
  refine x_ite (fun c9 => ?_) (fun c9 => ?_)
  · refine x_tabI 72 dX7_aboutNow_1 c9 (by decide) (by decide) rfl (by decide) ?_
    refine x_aload_n dX7_aboutNow_72 rfl rfl ?_
    refine x_getI dX7_aboutNow_73 lk_RX7_156 rfl rfl ?_
    exact x_iret dX7_aboutNow_76 rfl
  refine x_ite (fun c12 => ?_) (fun c12 => ?_)
  · refine x_tabI 77 dX7_aboutNow_1 c12 (by decide) (by decide) rfl (by decide) ?_
    refine x_aload_n dX7_aboutNow_77 rfl rfl ?_
    refine x_callV0i dX7_aboutNow_78 lc_RX7_227 (c_X7_breakNow _) rfl rfl rfl rfl rfl (fun r10 s11 => ?_)
    exact x_iret dX7_aboutNow_81 rfl
  refine x_ite (fun c15 => ?_) (fun c15 => ?_)
  · refine x_tabI 82 dX7_aboutNow_1 c15 (by decide) (by decide) rfl (by decide) ?_
    refine x_aload_n dX7_aboutNow_82 rfl rfl ?_
    refine x_iconst (v := -1) dX7_aboutNow_83 rfl ?_
    refine x_callV1i dX7_aboutNow_84 lc_RX7_230 (c_X7_zones _ _) rfl rfl rfl rfl rfl (fun r13 s14 => ?_)
    exact x_iret dX7_aboutNow_87 rfl
  refine x_ite (fun c18 => ?_) (fun c18 => ?_)
  · refine x_tabI 88 dX7_aboutNow_1 c18 (by decide) (by decide) rfl (by decide) ?_
    refine x_aload_n dX7_aboutNow_88 rfl rfl ?_
    refine x_callV0i dX7_aboutNow_89 lc_RX7_185 (c_X7_depth _) rfl rfl rfl rfl rfl (fun r16 s17 => ?_)
    exact x_iret dX7_aboutNow_92 rfl
  refine x_ite (fun c24 => ?_) (fun c24 => ?_)
  · refine x_tabI 93 dX7_aboutNow_1 c24 (by decide) (by decide) rfl (by decide) ?_
    refine x_aload_n dX7_aboutNow_93 rfl rfl ?_
    refine x_callV0i dX7_aboutNow_94 lc_RX7_233 (c_X7_fits _) rfl rfl rfl rfl rfl (fun r19 s20 => ?_)
    refine x_jn 105 (fun (v21 : Int32) => [none, none]) (fun (v21 : Int32) => [.int v21]) (fun v21 s22 => ?_) (fun j23 hj23 => ?_)
    · exact x_iret dX7_aboutNow_105 rfl
    · refine x_if_eq 104 dX7_aboutNow_97 (by decide) (fun _ => ?_) (fun _ => ?_)
      · refine x_iconst (v := 0) dX7_aboutNow_104 rfl ?_
        exact x_sub (x_le_n (x_le_n x_le_e)) (hj23 0 _)
      · refine x_iconst (v := 1) dX7_aboutNow_100 rfl ?_
        refine x_goto 105 dX7_aboutNow_101 (by decide) ?_
        exact x_sub (x_le_n (x_le_n x_le_e)) (hj23 1 _)
  have ec1 := x_ne 0 (by decide) c1
  have ec2 := x_ne 1 (by decide) c2
  have ec5 := x_ne 2 (by decide) c5
  have ec8 := x_ne 3 (by decide) c8
  have ec9 := x_ne 4 (by decide) c9
  have ec12 := x_ne 5 (by decide) c12
  have ec15 := x_ne 6 (by decide) c15
  have ec18 := x_ne 7 (by decide) c18
  have ec24 := x_ne 8 (by decide) c24
  refine x_tabO 106 dX7_aboutNow_1 (by omega) (by decide) ?_
  refine x_aload_n dX7_aboutNow_106 rfl rfl ?_
  refine x_callV0i dX7_aboutNow_107 lc_RX7_236 (c_X7_clashes _) rfl rfl rfl rfl rfl (fun r25 s26 => ?_)
  exact x_iret dX7_aboutNow_110 rfl

theorem c_X7_about (a1 : Int32) (σ : xSt) : CON κi yX7_about m_X7_about false 8 shM [.ref 0, .int a1] σ (f_X7_about a1 σ) := by
  refine x_con (L := [some (.ref 0), some (.int a1)]) (by decide) rfl rfl rfl ?_
  unfold f_X7_about
  refine x_iload_n dX7_about_0 rfl rfl ?_
  refine x_iconst (v := 0) dX7_about_1 rfl ?_
  refine x_bipush (v := 9) dX7_about_2 rfl ?_
  refine x_callS3i dX7_about_4 lc_RX7_47 (c_X7_within _ _ _ _) rfl rfl (fun r1 s2 => ?_)
  refine x_if_ne 13 dX7_about_7 (by decide) (fun _ => ?_) (fun _ => ?_)
  · refine x_aload_n dX7_about_13 rfl rfl ?_
    refine x_callV0i dX7_about_14 lc_RX7_197 (c_X7_isThere _) rfl rfl rfl rfl rfl (fun r3 s4 => ?_)
    refine x_jn 30 (fun (v7 : Int32) => [none, none]) (fun (v7 : Int32) => [.int v7]) (fun v7 s8 => ?_) (fun j9 hj9 => ?_)
    · exact x_iret dX7_about_30 rfl
    · refine x_if_eq 28 dX7_about_17 (by decide) (fun _ => ?_) (fun _ => ?_)
      · refine x_bipush (v := -103) dX7_about_28 rfl ?_
        exact x_sub (x_le_n (x_le_n x_le_e)) (hj9 (-103) _)
      · refine x_aload_n dX7_about_20 rfl rfl ?_
        refine x_iload_n dX7_about_21 rfl rfl ?_
        refine x_callV1i dX7_about_22 lc_RX7_239 (c_X7_aboutNow _ _) rfl rfl rfl rfl rfl (fun r10 s11 => ?_)
        refine x_goto 30 dX7_about_25 (by decide) ?_
        exact x_sub (x_le_n (x_le_n x_le_e)) (hj9 r10 _)
  · refine x_bipush (v := -102) dX7_about_10 rfl ?_
    exact x_iret dX7_about_12 rfl

theorem c_X7_pin (a1 : Int32) (a2 : Int32) (σ : xSt) : CON κi yX7_pin m_X7_pin false 2 shM [.ref 0, .int a1, .int a2] σ (f_X7_pin a1 a2 σ) := by
  refine x_con (L := [some (.ref 0), some (.int a1), some (.int a2)]) (by decide) rfl rfl rfl ?_
  unfold f_X7_pin
  refine x_aload_n dX7_pin_0 rfl rfl ?_
  refine x_iload_n dX7_pin_1 rfl rfl ?_
  refine x_callV1i dX7_pin_2 lc_RX7_242 (c_X7_isColumn _ _) rfl rfl rfl rfl rfl (fun r1 s2 => ?_)
  refine x_jn 37 (fun (v5 : Int32) => [none, none, none]) (fun (v5 : Int32) => [.int v5]) (fun v5 s6 => ?_) (fun j7 hj7 => ?_)
  · exact x_iret dX7_pin_37 rfl
  · refine x_if_ne 13 dX7_pin_5 (by decide) (fun _ => ?_) (fun _ => ?_)
    · refine x_iload_n dX7_pin_13 rfl rfl ?_
      refine x_iconst (v := 0) dX7_pin_14 rfl ?_
      refine x_iconst (v := 1) dX7_pin_15 rfl ?_
      refine x_callS3i dX7_pin_16 lc_RX7_47 (c_X7_within _ _ _ _) rfl rfl (fun r8 s9 => ?_)
      refine x_if_eq 35 dX7_pin_19 (by decide) (fun _ => ?_) (fun _ => ?_)
      · refine x_bipush (v := -102) dX7_pin_35 rfl ?_
        exact x_sub (x_le_n (x_le_n (x_le_n x_le_e))) (hj7 (-102) _)
      · refine x_aload_n dX7_pin_22 rfl rfl ?_
        refine x_getR dX7_pin_23 lk_RX7_7 rfl rfl ?_
        refine x_iconst (v := 2) dX7_pin_26 rfl ?_
        refine x_iload_n dX7_pin_27 rfl rfl ?_
        refine x_imul dX7_pin_28 ?_
        refine x_iload_n dX7_pin_29 rfl rfl ?_
        refine x_iadd dX7_pin_30 ?_
        refine x_iald dX7_pin_31 rfl ?_
        refine x_goto 37 dX7_pin_32 (by decide) ?_
        exact x_sub (x_le_n (x_le_n (x_le_n x_le_e))) (hj7 (s9.1 1 (((2 : Int32) * a1) + a2).toNatClampNeg) _)
    · refine x_bipush (v := -101) dX7_pin_8 rfl ?_
      refine x_goto 37 dX7_pin_10 (by decide) ?_
      exact x_sub (x_le_n (x_le_n (x_le_n x_le_e))) (hj7 (-101) _)

theorem t_X7_pinsOf_4 (w1 : Int32) (k : Int32 → xSt → Option (Int32 × xSt)) (hk : ∀ (w2 : Int32) (σ : xSt), XP κi false m_X7_pinsOf 0 shM 38 [none, none, some (.int w2), none] [] σ (k w2 σ)) : ∀ (n : Nat) (w2 : Int32) (w3 : Int32) (σ : xSt), XP κi false m_X7_pinsOf 0 shM 4 [some (.ref 0), some (.int w1), some (.int w2), some (.int w3)] [] σ (f_X7_pinsOf_4 w1 k n w2 w3 σ) := by
  intro n
  induction n with
  | zero => intro w2 w3 σ; exact x_none
  | succ n ih =>
    intro w2 w3 σ
    rw [f_X7_pinsOf_4]
    refine x_iload_n dX7_pinsOf_4 rfl rfl ?_
    refine x_iconst (v := 2) dX7_pinsOf_5 rfl ?_
    refine x_aload_n dX7_pinsOf_6 rfl rfl ?_
    refine x_getI dX7_pinsOf_7 lk_RX7_87 rfl rfl ?_
    refine x_imul dX7_pinsOf_10 ?_
    refine x_icmp_ge 38 dX7_pinsOf_11 (by decide) (fun _ => ?_) (fun _ => ?_)
    · exact x_sub (x_le_n (x_le_n (x_le_s rfl (x_le_n x_le_e)))) (hk _ _)
    · refine x_iload_n dX7_pinsOf_14 rfl rfl ?_
      refine x_aload_n dX7_pinsOf_15 rfl rfl ?_
      refine x_getR dX7_pinsOf_16 lk_RX7_7 rfl rfl ?_
      refine x_iload_n dX7_pinsOf_19 rfl rfl ?_
      refine x_iald dX7_pinsOf_20 rfl ?_
      refine x_iload_n dX7_pinsOf_21 rfl rfl ?_
      refine x_jn 30 (fun (v1 : Int32) => [some (.ref 0), some (.int w1), none, some (.int w3)]) (fun (v1 : Int32) => [.int v1, .int w2]) (fun v1 s2 => ?_) (fun j3 hj3 => ?_)
      · refine x_iadd dX7_pinsOf_30 ?_
        refine x_istore_nB dX7_pinsOf_31 rfl rfl rfl (fun x4 => ?_)
        refine x_iinc dX7_pinsOf_32 rfl rfl rfl rfl ?_
        refine x_goto 4 dX7_pinsOf_35 (by decide) ?_
        exact x_sub (x_le_s rfl (x_le_s rfl (x_le_s rfl (x_le_s rfl x_le_e)))) (ih _ _ _)
      · refine x_icmp_ne 29 dX7_pinsOf_22 (by decide) (fun _ => ?_) (fun _ => ?_)
        · refine x_iconst (v := 0) dX7_pinsOf_29 rfl ?_
          exact x_sub (x_le_s rfl (x_le_s rfl (x_le_n (x_le_s rfl x_le_e)))) (hj3 0 _)
        · refine x_iconst (v := 1) dX7_pinsOf_25 rfl ?_
          refine x_goto 30 dX7_pinsOf_26 (by decide) ?_
          exact x_sub (x_le_s rfl (x_le_s rfl (x_le_n (x_le_s rfl x_le_e)))) (hj3 1 _)

theorem c_X7_pinsOf (a1 : Int32) (σ : xSt) : CON κi yX7_pinsOf m_X7_pinsOf false 0 shM [.ref 0, .int a1] σ (f_X7_pinsOf a1 σ) := by
  refine x_con (L := [some (.ref 0), some (.int a1), none, none]) (by decide) rfl rfl rfl ?_
  unfold f_X7_pinsOf
  refine x_iconst (v := 0) dX7_pinsOf_0 rfl ?_
  refine x_istore_n dX7_pinsOf_1 rfl rfl rfl ?_
  refine x_iconst (v := 0) dX7_pinsOf_2 rfl ?_
  refine x_istore_n dX7_pinsOf_3 rfl rfl rfl ?_
  refine x_sub (x_le_s rfl (x_le_s rfl (x_le_s rfl (x_le_s rfl x_le_e)))) (t_X7_pinsOf_4 _ _ (fun e5 s6 => ?_) FU _ _ _)
  refine x_iload_n dX7_pinsOf_38 rfl rfl ?_
  exact x_iret dX7_pinsOf_39 rfl

theorem c_X7_isNetThere (a1 : Int32) (σ : xSt) : CON κi yX7_isNetThere m_X7_isNetThere false 1 shM [.ref 0, .int a1] σ (f_X7_isNetThere a1 σ) := by
  refine x_con (L := [some (.ref 0), some (.int a1)]) (by decide) rfl rfl rfl ?_
  unfold f_X7_isNetThere
  refine x_iload_n dX7_isNetThere_0 rfl rfl ?_
  refine x_iconst (v := 0) dX7_isNetThere_1 rfl ?_
  refine x_iconst (v := 5) dX7_isNetThere_2 rfl ?_
  refine x_callS3i dX7_isNetThere_3 lc_RX7_47 (c_X7_within _ _ _ _) rfl rfl (fun r1 s2 => ?_)
  refine x_jn 22 (fun (v10 : Int32) => [none, none]) (fun (v10 : Int32) => [.int v10]) (fun v10 s11 => ?_) (fun j12 hj12 => ?_)
  · exact x_zret dX7_isNetThere_22 rfl
  · refine x_jn 21 (fun (v15 : Unit) => [none, none]) (fun (v15 : Unit) => []) (fun v15 s16 => ?_) (fun j17 hj17 => ?_)
    · refine x_iconst (v := 0) dX7_isNetThere_21 rfl ?_
      exact x_sub (x_le_n (x_le_n x_le_e)) (hj12 0 _)
    · refine x_if_eq 21 dX7_isNetThere_6 (by decide) (fun _ => ?_) (fun _ => ?_)
      · exact x_sub (x_le_n (x_le_n x_le_e)) (hj17 () _)
      · refine x_aload_n dX7_isNetThere_9 rfl rfl ?_
        refine x_iload_n dX7_isNetThere_10 rfl rfl ?_
        refine x_callV1i dX7_isNetThere_11 lc_RX7_245 (c_X7_pinsOf _ _) rfl rfl rfl rfl rfl (fun r18 s19 => ?_)
        refine x_if_le 21 dX7_isNetThere_14 (by decide) (fun _ => ?_) (fun _ => ?_)
        · exact x_sub (x_le_n (x_le_n x_le_e)) (hj17 () _)
        · refine x_iconst (v := 1) dX7_isNetThere_17 rfl ?_
          refine x_goto 22 dX7_isNetThere_18 (by decide) ?_
          exact x_sub (x_le_n (x_le_n x_le_e)) (hj12 1 _)

theorem t_X7_firstPin_2 (w1 : Int32) (k : Int32 → xSt → Option (Int32 × xSt)) (hk : ∀ (w2 : Int32) (σ : xSt), XP κi false m_X7_firstPin 2 shM 17 [none, none, some (.int w2)] [] σ (k w2 σ)) : ∀ (n : Nat) (w2 : Int32) (σ : xSt), XP κi false m_X7_firstPin 2 shM 2 [some (.ref 0), some (.int w1), some (.int w2)] [] σ (f_X7_firstPin_2 w1 k n w2 σ) := by
  intro n
  induction n with
  | zero => intro w2 σ; exact x_none
  | succ n ih =>
    intro w2 σ
    rw [f_X7_firstPin_2]
    refine x_aload_n dX7_firstPin_2 rfl rfl ?_
    refine x_iload_n dX7_firstPin_3 rfl rfl ?_
    refine x_iload_n dX7_firstPin_4 rfl rfl ?_
    refine x_callV2i dX7_firstPin_5 lc_RX7_133 (c_X7_hasPin _ _ _) rfl rfl rfl rfl rfl (fun r1 s2 => ?_)
    refine x_if_ne 17 dX7_firstPin_8 (by decide) (fun _ => ?_) (fun _ => ?_)
    · exact x_sub (x_le_n (x_le_n (x_le_s rfl x_le_e))) (hk _ _)
    · refine x_iinc dX7_firstPin_11 rfl rfl rfl rfl ?_
      refine x_goto 2 dX7_firstPin_14 (by decide) ?_
      exact x_sub (x_le_s rfl (x_le_s rfl (x_le_s rfl x_le_e))) (ih _ _)

theorem c_X7_firstPin (a1 : Int32) (σ : xSt) : CON κi yX7_firstPin m_X7_firstPin false 2 shM [.ref 0, .int a1] σ (f_X7_firstPin a1 σ) := by
  refine x_con (L := [some (.ref 0), some (.int a1), none]) (by decide) rfl rfl rfl ?_
  unfold f_X7_firstPin
  refine x_iconst (v := 0) dX7_firstPin_0 rfl ?_
  refine x_istore_n dX7_firstPin_1 rfl rfl rfl ?_
  refine x_sub (x_le_s rfl (x_le_s rfl (x_le_s rfl x_le_e))) (t_X7_firstPin_2 _ _ (fun e3 s4 => ?_) FU _ _)
  refine x_iload_n dX7_firstPin_17 rfl rfl ?_
  exact x_iret dX7_firstPin_18 rfl

theorem t_X7_lastPin_7 (w1 : Int32) (k : Int32 → xSt → Option (Int32 × xSt)) (hk : ∀ (w2 : Int32) (σ : xSt), XP κi false m_X7_lastPin 2 shM 22 [none, none, some (.int w2)] [] σ (k w2 σ)) : ∀ (n : Nat) (w2 : Int32) (σ : xSt), XP κi false m_X7_lastPin 2 shM 7 [some (.ref 0), some (.int w1), some (.int w2)] [] σ (f_X7_lastPin_7 w1 k n w2 σ) := by
  intro n
  induction n with
  | zero => intro w2 σ; exact x_none
  | succ n ih =>
    intro w2 σ
    rw [f_X7_lastPin_7]
    refine x_aload_n dX7_lastPin_7 rfl rfl ?_
    refine x_iload_n dX7_lastPin_8 rfl rfl ?_
    refine x_iload_n dX7_lastPin_9 rfl rfl ?_
    refine x_callV2i dX7_lastPin_10 lc_RX7_133 (c_X7_hasPin _ _ _) rfl rfl rfl rfl rfl (fun r2 s3 => ?_)
    refine x_if_ne 22 dX7_lastPin_13 (by decide) (fun _ => ?_) (fun _ => ?_)
    · exact x_sub (x_le_n (x_le_n (x_le_s rfl x_le_e))) (hk _ _)
    · refine x_iinc dX7_lastPin_16 rfl rfl rfl rfl ?_
      refine x_goto 7 dX7_lastPin_19 (by decide) ?_
      exact x_sub (x_le_s rfl (x_le_s rfl (x_le_s rfl x_le_e))) (ih _ _)

theorem c_X7_lastPin (a1 : Int32) (σ : xSt) : CON κi yX7_lastPin m_X7_lastPin false 2 shM [.ref 0, .int a1] σ (f_X7_lastPin a1 σ) := by
  refine x_con (L := [some (.ref 0), some (.int a1), none]) (by decide) rfl rfl rfl ?_
  unfold f_X7_lastPin
  refine x_aload_n dX7_lastPin_0 rfl rfl ?_
  refine x_getI dX7_lastPin_1 lk_RX7_87 rfl rfl ?_
  refine x_iconst (v := 1) dX7_lastPin_4 rfl ?_
  refine x_isub dX7_lastPin_5 ?_
  refine x_istore_nB dX7_lastPin_6 rfl rfl rfl (fun x1 => ?_)
  refine x_sub (x_le_s rfl (x_le_s rfl (x_le_s rfl x_le_e))) (t_X7_lastPin_7 _ _ (fun e4 s5 => ?_) FU _ _)
  refine x_iload_n dX7_lastPin_22 rfl rfl ?_
  exact x_iret dX7_lastPin_23 rfl

theorem t_X7_segmentsOf_4 (w1 : Int32) (k : Int32 → xSt → Option (Int32 × xSt)) (hk : ∀ (w2 : Int32) (σ : xSt), XP κi false m_X7_segmentsOf 0 shM 36 [none, none, some (.int w2), none] [] σ (k w2 σ)) : ∀ (n : Nat) (w2 : Int32) (w3 : Int32) (σ : xSt), XP κi false m_X7_segmentsOf 0 shM 4 [some (.ref 0), some (.int w1), some (.int w2), some (.int w3)] [] σ (f_X7_segmentsOf_4 w1 k n w2 w3 σ) := by
  intro n
  induction n with
  | zero => intro w2 w3 σ; exact x_none
  | succ n ih =>
    intro w2 w3 σ
    rw [f_X7_segmentsOf_4]
    refine x_iload_n dX7_segmentsOf_4 rfl rfl ?_
    refine x_aload_n dX7_segmentsOf_5 rfl rfl ?_
    refine x_getI dX7_segmentsOf_6 lk_RX7_130 rfl rfl ?_
    refine x_icmp_ge 36 dX7_segmentsOf_9 (by decide) (fun _ => ?_) (fun _ => ?_)
    · exact x_sub (x_le_n (x_le_n (x_le_s rfl (x_le_n x_le_e)))) (hk _ _)
    · refine x_iload_n dX7_segmentsOf_12 rfl rfl ?_
      refine x_aload_n dX7_segmentsOf_13 rfl rfl ?_
      refine x_getR dX7_segmentsOf_14 lk_RX7_13 rfl rfl ?_
      refine x_iload_n dX7_segmentsOf_17 rfl rfl ?_
      refine x_iald dX7_segmentsOf_18 rfl ?_
      refine x_iload_n dX7_segmentsOf_19 rfl rfl ?_
      refine x_jn 28 (fun (v1 : Int32) => [some (.ref 0), some (.int w1), none, some (.int w3)]) (fun (v1 : Int32) => [.int v1, .int w2]) (fun v1 s2 => ?_) (fun j3 hj3 => ?_)
      · refine x_iadd dX7_segmentsOf_28 ?_
        refine x_istore_nB dX7_segmentsOf_29 rfl rfl rfl (fun x4 => ?_)
        refine x_iinc dX7_segmentsOf_30 rfl rfl rfl rfl ?_
        refine x_goto 4 dX7_segmentsOf_33 (by decide) ?_
        exact x_sub (x_le_s rfl (x_le_s rfl (x_le_s rfl (x_le_s rfl x_le_e)))) (ih _ _ _)
      · refine x_icmp_ne 27 dX7_segmentsOf_20 (by decide) (fun _ => ?_) (fun _ => ?_)
        · refine x_iconst (v := 0) dX7_segmentsOf_27 rfl ?_
          exact x_sub (x_le_s rfl (x_le_s rfl (x_le_n (x_le_s rfl x_le_e)))) (hj3 0 _)
        · refine x_iconst (v := 1) dX7_segmentsOf_23 rfl ?_
          refine x_goto 28 dX7_segmentsOf_24 (by decide) ?_
          exact x_sub (x_le_s rfl (x_le_s rfl (x_le_n (x_le_s rfl x_le_e)))) (hj3 1 _)

theorem c_X7_segmentsOf (a1 : Int32) (σ : xSt) : CON κi yX7_segmentsOf m_X7_segmentsOf false 0 shM [.ref 0, .int a1] σ (f_X7_segmentsOf a1 σ) := by
  refine x_con (L := [some (.ref 0), some (.int a1), none, none]) (by decide) rfl rfl rfl ?_
  unfold f_X7_segmentsOf
  refine x_iconst (v := 0) dX7_segmentsOf_0 rfl ?_
  refine x_istore_n dX7_segmentsOf_1 rfl rfl rfl ?_
  refine x_iconst (v := 0) dX7_segmentsOf_2 rfl ?_
  refine x_istore_n dX7_segmentsOf_3 rfl rfl rfl ?_
  refine x_sub (x_le_s rfl (x_le_s rfl (x_le_s rfl (x_le_s rfl x_le_e)))) (t_X7_segmentsOf_4 _ _ (fun e5 s6 => ?_) FU _ _ _)
  refine x_iload_n dX7_segmentsOf_36 rfl rfl ?_
  exact x_iret dX7_segmentsOf_37 rfl

theorem c_X7_netNow (a1 : Int32) (a2 : Int32) (σ : xSt) : CON κi yX7_netNow m_X7_netNow false 3 shM [.ref 0, .int a1, .int a2] σ (f_X7_netNow a1 a2 σ) := by
  refine x_con (L := [some (.ref 0), some (.int a1), some (.int a2)]) (by decide) rfl rfl rfl ?_
  unfold f_X7_netNow
  refine x_iload_n dX7_netNow_0 rfl rfl ?_
  refine x_ite (fun c3 => ?_) (fun c3 => ?_)
  · refine x_tabI 32 dX7_netNow_1 c3 (by decide) (by decide) rfl (by decide) ?_
    refine x_aload_n dX7_netNow_32 rfl rfl ?_
    refine x_iload_n dX7_netNow_33 rfl rfl ?_
    refine x_callV1i dX7_netNow_34 lc_RX7_245 (c_X7_pinsOf _ _) rfl rfl rfl rfl rfl (fun r1 s2 => ?_)
    exact x_iret dX7_netNow_37 rfl
  refine x_ite (fun c6 => ?_) (fun c6 => ?_)
  · refine x_tabI 38 dX7_netNow_1 c6 (by decide) (by decide) rfl (by decide) ?_
    refine x_aload_n dX7_netNow_38 rfl rfl ?_
    refine x_iload_n dX7_netNow_39 rfl rfl ?_
    refine x_callV1i dX7_netNow_40 lc_RX7_248 (c_X7_firstPin _ _) rfl rfl rfl rfl rfl (fun r4 s5 => ?_)
    exact x_iret dX7_netNow_43 rfl
  refine x_ite (fun c9 => ?_) (fun c9 => ?_)
  · refine x_tabI 44 dX7_netNow_1 c9 (by decide) (by decide) rfl (by decide) ?_
    refine x_aload_n dX7_netNow_44 rfl rfl ?_
    refine x_iload_n dX7_netNow_45 rfl rfl ?_
    refine x_callV1i dX7_netNow_46 lc_RX7_251 (c_X7_lastPin _ _) rfl rfl rfl rfl rfl (fun r7 s8 => ?_)
    exact x_iret dX7_netNow_49 rfl
  refine x_ite (fun c10 => ?_) (fun c10 => ?_)
  · refine x_tabI 50 dX7_netNow_1 c10 (by decide) (by decide) rfl (by decide) ?_
    refine x_aload_n dX7_netNow_50 rfl rfl ?_
    refine x_getI dX7_netNow_51 lk_RX7_93 rfl rfl ?_
    refine x_iload_n dX7_netNow_54 rfl rfl ?_
    refine x_ishr dX7_netNow_55 ?_
    refine x_iconst (v := 1) dX7_netNow_56 rfl ?_
    refine x_iand dX7_netNow_57 ?_
    exact x_iret dX7_netNow_58 rfl
  have ec3 := x_ne 0 (by decide) c3
  have ec6 := x_ne 1 (by decide) c6
  have ec9 := x_ne 2 (by decide) c9
  have ec10 := x_ne 3 (by decide) c10
  refine x_tabO 59 dX7_netNow_1 (by omega) (by decide) ?_
  refine x_aload_n dX7_netNow_59 rfl rfl ?_
  refine x_iload_n dX7_netNow_60 rfl rfl ?_
  refine x_callV1i dX7_netNow_61 lc_RX7_254 (c_X7_segmentsOf _ _) rfl rfl rfl rfl rfl (fun r11 s12 => ?_)
  exact x_iret dX7_netNow_64 rfl

theorem c_X7_net (a1 : Int32) (a2 : Int32) (σ : xSt) : CON κi yX7_net m_X7_net false 4 shM [.ref 0, .int a1, .int a2] σ (f_X7_net a1 a2 σ) := by
  refine x_con (L := [some (.ref 0), some (.int a1), some (.int a2)]) (by decide) rfl rfl rfl ?_
  unfold f_X7_net
  refine x_aload_n dX7_net_0 rfl rfl ?_
  refine x_iload_n dX7_net_1 rfl rfl ?_
  refine x_callV1i dX7_net_2 lc_RX7_257 (c_X7_isNetThere _ _) rfl rfl rfl rfl rfl (fun r1 s2 => ?_)
  refine x_jn 33 (fun (v7 : Int32) => [none, none, none]) (fun (v7 : Int32) => [.int v7]) (fun v7 s8 => ?_) (fun j9 hj9 => ?_)
  · exact x_iret dX7_net_33 rfl
  · refine x_if_ne 13 dX7_net_5 (by decide) (fun _ => ?_) (fun _ => ?_)
    · refine x_iload_n dX7_net_13 rfl rfl ?_
      refine x_iconst (v := 0) dX7_net_14 rfl ?_
      refine x_iconst (v := 4) dX7_net_15 rfl ?_
      refine x_callS3i dX7_net_16 lc_RX7_47 (c_X7_within _ _ _ _) rfl rfl (fun r10 s11 => ?_)
      refine x_if_eq 31 dX7_net_19 (by decide) (fun _ => ?_) (fun _ => ?_)
      · refine x_bipush (v := -102) dX7_net_31 rfl ?_
        exact x_sub (x_le_n (x_le_n (x_le_n x_le_e))) (hj9 (-102) _)
      · refine x_aload_n dX7_net_22 rfl rfl ?_
        refine x_iload_n dX7_net_23 rfl rfl ?_
        refine x_iload_n dX7_net_24 rfl rfl ?_
        refine x_callV2i dX7_net_25 lc_RX7_260 (c_X7_netNow _ _ _) rfl rfl rfl rfl rfl (fun r12 s13 => ?_)
        refine x_goto 33 dX7_net_28 (by decide) ?_
        exact x_sub (x_le_n (x_le_n (x_le_n x_le_e))) (hj9 r12 _)
    · refine x_bipush (v := -101) dX7_net_8 rfl ?_
      refine x_goto 33 dX7_net_10 (by decide) ?_
      exact x_sub (x_le_n (x_le_n (x_le_n x_le_e))) (hj9 (-101) _)

