theorem t_X6_digest_31 (k : Int64 → xSt → Option (Int64 × xSt)) (hk : ∀ (w1 : Int64) (σ : xSt), XP κl true m_X6_digest 6 shC 62 [some (.ref 0), some (.long w1), none, none] [] σ (k w1 σ)) : ∀ (n : Nat) (w1 : Int64) (w3 : Int32) (σ : xSt), XP κl true m_X6_digest 6 shC 31 [some (.ref 0), some (.long w1), none, some (.int w3)] [] σ (f_X6_digest_31 k n w1 w3 σ) := by
  intro n
  induction n with
  | zero => intro w1 w3 σ; exact x_none
  | succ n ih =>
    intro w1 w3 σ
    rw [f_X6_digest_31]
    refine x_iload_n dX6_digest_31 rfl rfl ?_
    refine x_aload_n dX6_digest_32 rfl rfl ?_
    refine x_getR dX6_digest_33 lk_RX6_10 rfl rfl ?_
    refine x_getI dX6_digest_36 lk_RX6_54 rfl rfl ?_
    refine x_icmp_ge 62 dX6_digest_39 (by decide) (fun _ => ?_) (fun _ => ?_)
    · exact x_sub (x_le_s rfl (x_le_s rfl (x_le_n (x_le_n x_le_e)))) (hk _ _)
    · refine x_lload_n dX6_digest_42 rfl rfl ?_
      refine x_aload_n dX6_digest_43 rfl rfl ?_
      refine x_getR dX6_digest_44 lk_RX6_10 rfl rfl ?_
      refine x_getR dX6_digest_47 lk_RX6_277 rfl rfl ?_
      refine x_iload_n dX6_digest_50 rfl rfl ?_
      refine x_iald dX6_digest_51 rfl ?_
      refine x_callS2l dX6_digest_52 lc_RX6_280 (c_X6_mix _ _ _) rfl rfl (fun r12 s13 => ?_)
      refine x_lstore_n dX6_digest_55 rfl rfl rfl ?_
      refine x_iinc dX6_digest_56 rfl rfl rfl rfl ?_
      refine x_goto 31 dX6_digest_59 (by decide) ?_
      exact x_sub (x_le_s rfl (x_le_s rfl (x_le_n (x_le_s rfl x_le_e)))) (ih _ _ _)

theorem t_X6_digest_64 (k : Int64 → xSt → Option (Int64 × xSt)) (hk : ∀ (w1 : Int64) (σ : xSt), XP κl true m_X6_digest 6 shC 86 [none, some (.long w1), none, none] [] σ (k w1 σ)) : ∀ (n : Nat) (w1 : Int64) (w3 : Int32) (σ : xSt), XP κl true m_X6_digest 6 shC 64 [some (.ref 0), some (.long w1), none, some (.int w3)] [] σ (f_X6_digest_64 k n w1 w3 σ) := by
  intro n
  induction n with
  | zero => intro w1 w3 σ; exact x_none
  | succ n ih =>
    intro w1 w3 σ
    rw [f_X6_digest_64]
    refine x_iload_n dX6_digest_64 rfl rfl ?_
    refine x_bipush (v := 8) dX6_digest_65 rfl ?_
    refine x_icmp_gt 86 dX6_digest_67 (by decide) (fun _ => ?_) (fun _ => ?_)
    · exact x_sub (x_le_n (x_le_s rfl (x_le_n (x_le_n x_le_e)))) (hk _ _)
    · refine x_lload_n dX6_digest_70 rfl rfl ?_
      refine x_aload_n dX6_digest_71 rfl rfl ?_
      refine x_iload_n dX6_digest_72 rfl rfl ?_
      refine x_callV1i dX6_digest_73 lc_RX6_284 (c_X6_count _ _) rfl rfl rfl rfl rfl (fun r16 s17 => ?_)
      refine x_callS2l dX6_digest_76 lc_RX6_280 (c_X6_mix _ _ _) rfl rfl (fun r18 s19 => ?_)
      refine x_lstore_n dX6_digest_79 rfl rfl rfl ?_
      refine x_iinc dX6_digest_80 rfl rfl rfl rfl ?_
      refine x_goto 64 dX6_digest_83 (by decide) ?_
      exact x_sub (x_le_s rfl (x_le_s rfl (x_le_n (x_le_s rfl x_le_e)))) (ih _ _ _)

theorem c_X6_digest (σ : xSt) : CON κl yX6_digest m_X6_digest true 6 shC [.ref 0] σ (f_X6_digest σ) := by
  refine x_con (L := [some (.ref 0), none, none, none]) (by decide) rfl rfl rfl ?_
  unfold f_X6_digest
  refine x_ldc2 (v := 1489) dX6_digest_0 (xT_of 734 (by decide +kernel) (by decide +kernel)) ?_
  refine x_lstore_n dX6_digest_3 rfl rfl rfl ?_
  refine x_aload_n dX6_digest_4 rfl rfl ?_
  refine x_callV0i dX6_digest_5 lc_RX6_118 (c_X6_hasChannel _) rfl rfl rfl rfl rfl (fun r1 s2 => ?_)
  refine x_jn 29 (fun (v9 : Int64) => [some (.ref 0), some (.long v9), none, none]) (fun (v9 : Int64) => []) (fun v9 s10 => ?_) (fun j11 hj11 => ?_)
  · refine x_iconst (v := 0) dX6_digest_29 rfl ?_
    refine x_istore_n dX6_digest_30 rfl rfl rfl ?_
    refine x_sub (x_le_s rfl (x_le_s rfl (x_le_n (x_le_s rfl x_le_e)))) (t_X6_digest_31 _ (fun e14 s15 => ?_) FU _ _ _)
    refine x_iconst (v := 0) dX6_digest_62 rfl ?_
    refine x_istore_n dX6_digest_63 rfl rfl rfl ?_
    refine x_sub (x_le_s rfl (x_le_s rfl (x_le_n (x_le_s rfl x_le_e)))) (t_X6_digest_64 _ (fun e20 s21 => ?_) FU _ _ _)
    refine x_lload_n dX6_digest_86 rfl rfl ?_
    exact x_lret dX6_digest_87 rfl
  · refine x_if_eq 29 dX6_digest_8 (by decide) (fun _ => ?_) (fun _ => ?_)
    · exact x_sub (x_le_s rfl (x_le_s rfl (x_le_n (x_le_n x_le_e)))) (hj11 1489 _)
    · refine x_aload_n dX6_digest_11 rfl rfl ?_
      refine x_lload_n dX6_digest_12 rfl rfl ?_
      refine x_callV1l dX6_digest_13 lc_RX6_267 (c_X6_digestChannel _ _) rfl rfl rfl rfl rfl (fun r22 s23 => ?_)
      refine x_lstore_n dX6_digest_16 rfl rfl rfl ?_
      refine x_aload_n dX6_digest_17 rfl rfl ?_
      refine x_lload_n dX6_digest_18 rfl rfl ?_
      refine x_callV1l dX6_digest_19 lc_RX6_271 (c_X6_digestSegments _ _) rfl rfl rfl rfl rfl (fun r24 s25 => ?_)
      refine x_lstore_n dX6_digest_22 rfl rfl rfl ?_
      refine x_aload_n dX6_digest_23 rfl rfl ?_
      refine x_lload_n dX6_digest_24 rfl rfl ?_
      refine x_callV1l dX6_digest_25 lc_RX6_274 (c_X6_digestPlan _ _) rfl rfl rfl rfl rfl (fun r26 s27 => ?_)
      refine x_lstore_n dX6_digest_28 rfl rfl rfl ?_
      exact x_sub (x_le_s rfl (x_le_s rfl (x_le_n (x_le_n x_le_e)))) (hj11 r26 _)

