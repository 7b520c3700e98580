theorem c_X7_isSegment (a1 : Int32) (σ : xSt) : CON κi yX7_isSegment m_X7_isSegment false 1 shM [.ref 0, .int a1] σ (f_X7_isSegment a1 σ) := by
  refine x_con (L := [some (.ref 0), some (.int a1)]) (by decide) rfl rfl rfl ?_
  unfold f_X7_isSegment
  refine x_iload_n dX7_isSegment_0 rfl rfl ?_
  refine x_iconst (v := 0) dX7_isSegment_1 rfl ?_
  refine x_aload_n dX7_isSegment_2 rfl rfl ?_
  refine x_getI dX7_isSegment_3 lk_RX7_130 rfl rfl ?_
  refine x_iconst (v := 1) dX7_isSegment_6 rfl ?_
  refine x_isub dX7_isSegment_7 ?_
  refine x_callS3i dX7_isSegment_8 lc_RX7_47 (c_X7_within _ _ _ _) rfl rfl (fun r1 s2 => ?_)
  exact x_zret dX7_isSegment_11 rfl

theorem t_X7_overIt_4 (w1 : Int32) (k : Int32 → xSt → Option (Int32 × xSt)) (hk : ∀ (w2 : Int32) (σ : xSt), XP κi false m_X7_overIt 0 shM 31 [none, none, some (.int w2), none] [] σ (k w2 σ)) : ∀ (n : Nat) (w2 : Int32) (w3 : Int32) (σ : xSt), XP κi false m_X7_overIt 0 shM 4 [some (.ref 0), some (.int w1), some (.int w2), some (.int w3)] [] σ (f_X7_overIt_4 w1 k n w2 w3 σ) := by
  intro n
  induction n with
  | zero => intro w2 w3 σ; exact x_none
  | succ n ih =>
    intro w2 w3 σ
    rw [f_X7_overIt_4]
    refine x_iload_n dX7_overIt_4 rfl rfl ?_
    refine x_aload_n dX7_overIt_5 rfl rfl ?_
    refine x_getI dX7_overIt_6 lk_RX7_130 rfl rfl ?_
    refine x_icmp_ge 31 dX7_overIt_9 (by decide) (fun _ => ?_) (fun _ => ?_)
    · exact x_sub (x_le_n (x_le_n (x_le_s rfl (x_le_n x_le_e)))) (hk _ _)
    · refine x_iload_n dX7_overIt_12 rfl rfl ?_
      refine x_aload_n dX7_overIt_13 rfl rfl ?_
      refine x_getR dX7_overIt_14 lk_RX7_25 rfl rfl ?_
      refine x_iload_n dX7_overIt_17 rfl rfl ?_
      refine x_iald dX7_overIt_18 rfl ?_
      refine x_iload_n dX7_overIt_19 rfl rfl ?_
      refine x_ishr dX7_overIt_20 ?_
      refine x_iconst (v := 1) dX7_overIt_21 rfl ?_
      refine x_iand dX7_overIt_22 ?_
      refine x_iadd dX7_overIt_23 ?_
      refine x_istore_nB dX7_overIt_24 rfl rfl rfl (fun x1 => ?_)
      refine x_iinc dX7_overIt_25 rfl rfl rfl rfl ?_
      refine x_goto 4 dX7_overIt_28 (by decide) ?_
      exact x_sub (x_le_s rfl (x_le_s rfl (x_le_s rfl (x_le_s rfl x_le_e)))) (ih _ _ _)

theorem c_X7_overIt (a1 : Int32) (σ : xSt) : CON κi yX7_overIt m_X7_overIt false 0 shM [.ref 0, .int a1] σ (f_X7_overIt a1 σ) := by
  refine x_con (L := [some (.ref 0), some (.int a1), none, none]) (by decide) rfl rfl rfl ?_
  unfold f_X7_overIt
  refine x_iconst (v := 0) dX7_overIt_0 rfl ?_
  refine x_istore_n dX7_overIt_1 rfl rfl rfl ?_
  refine x_iconst (v := 0) dX7_overIt_2 rfl ?_
  refine x_istore_n dX7_overIt_3 rfl rfl rfl ?_
  refine x_sub (x_le_s rfl (x_le_s rfl (x_le_s rfl (x_le_s rfl x_le_e)))) (t_X7_overIt_4 _ _ (fun e2 s3 => ?_) FU _ _ _)
  refine x_iload_n dX7_overIt_31 rfl rfl ?_
  exact x_iret dX7_overIt_32 rfl

theorem c_X7_segmentNow (a1 : Int32) (a2 : Int32) (σ : xSt) : CON κi yX7_segmentNow m_X7_segmentNow false 3 shM [.ref 0, .int a1, .int a2] σ (f_X7_segmentNow a1 a2 σ) := by
  refine x_con (L := [some (.ref 0), some (.int a1), some (.int a2)]) (by decide) rfl rfl rfl ?_
  unfold f_X7_segmentNow
  refine x_iload_n dX7_segmentNow_0 rfl rfl ?_
  refine x_ite (fun c1 => ?_) (fun c1 => ?_)
  · refine x_tabI 40 dX7_segmentNow_1 c1 (by decide) (by decide) rfl (by decide) ?_
    refine x_aload_n dX7_segmentNow_40 rfl rfl ?_
    refine x_getR dX7_segmentNow_41 lk_RX7_13 rfl rfl ?_
    refine x_iload_n dX7_segmentNow_44 rfl rfl ?_
    refine x_iald dX7_segmentNow_45 rfl ?_
    exact x_iret dX7_segmentNow_46 rfl
  refine x_ite (fun c2 => ?_) (fun c2 => ?_)
  · refine x_tabI 47 dX7_segmentNow_1 c2 (by decide) (by decide) rfl (by decide) ?_
    refine x_aload_n dX7_segmentNow_47 rfl rfl ?_
    refine x_getR dX7_segmentNow_48 lk_RX7_16 rfl rfl ?_
    refine x_iload_n dX7_segmentNow_51 rfl rfl ?_
    refine x_iald dX7_segmentNow_52 rfl ?_
    exact x_iret dX7_segmentNow_53 rfl
  refine x_ite (fun c3 => ?_) (fun c3 => ?_)
  · refine x_tabI 54 dX7_segmentNow_1 c3 (by decide) (by decide) rfl (by decide) ?_
    refine x_aload_n dX7_segmentNow_54 rfl rfl ?_
    refine x_getR dX7_segmentNow_55 lk_RX7_19 rfl rfl ?_
    refine x_iload_n dX7_segmentNow_58 rfl rfl ?_
    refine x_iald dX7_segmentNow_59 rfl ?_
    exact x_iret dX7_segmentNow_60 rfl
  refine x_ite (fun c4 => ?_) (fun c4 => ?_)
  · refine x_tabI 61 dX7_segmentNow_1 c4 (by decide) (by decide) rfl (by decide) ?_
    refine x_aload_n dX7_segmentNow_61 rfl rfl ?_
    refine x_getR dX7_segmentNow_62 lk_RX7_22 rfl rfl ?_
    refine x_iload_n dX7_segmentNow_65 rfl rfl ?_
    refine x_iald dX7_segmentNow_66 rfl ?_
    exact x_iret dX7_segmentNow_67 rfl
  refine x_ite (fun c7 => ?_) (fun c7 => ?_)
  · refine x_tabI 68 dX7_segmentNow_1 c7 (by decide) (by decide) rfl (by decide) ?_
    refine x_aload_n dX7_segmentNow_68 rfl rfl ?_
    refine x_getR dX7_segmentNow_69 lk_RX7_25 rfl rfl ?_
    refine x_iload_n dX7_segmentNow_72 rfl rfl ?_
    refine x_iald dX7_segmentNow_73 rfl ?_
    refine x_callS1i dX7_segmentNow_74 lc_RX7_191 (c_X7_size _ _) rfl rfl (fun r5 s6 => ?_)
    exact x_iret dX7_segmentNow_77 rfl
  refine x_ite (fun c10 => ?_) (fun c10 => ?_)
  · refine x_tabI 78 dX7_segmentNow_1 c10 (by decide) (by decide) rfl (by decide) ?_
    refine x_aload_n dX7_segmentNow_78 rfl rfl ?_
    refine x_iload_n dX7_segmentNow_79 rfl rfl ?_
    refine x_callV1i dX7_segmentNow_80 lc_RX7_263 (c_X7_overIt _ _) rfl rfl rfl rfl rfl (fun r8 s9 => ?_)
    exact x_iret dX7_segmentNow_83 rfl
  have ec1 := x_ne 0 (by decide) c1
  have ec2 := x_ne 1 (by decide) c2
  have ec3 := x_ne 2 (by decide) c3
  have ec4 := x_ne 3 (by decide) c4
  have ec7 := x_ne 4 (by decide) c7
  have ec10 := x_ne 5 (by decide) c10
  refine x_tabO 84 dX7_segmentNow_1 (by omega) (by decide) ?_
  refine x_aload_n dX7_segmentNow_84 rfl rfl ?_
  refine x_iload_n dX7_segmentNow_85 rfl rfl ?_
  refine x_callV1i dX7_segmentNow_86 lc_RX7_215 (c_X7_level _ _) rfl rfl rfl rfl rfl (fun r11 s12 => ?_)
  exact x_iret dX7_segmentNow_89 rfl

theorem c_X7_segment (a1 : Int32) (a2 : Int32) (σ : xSt) : CON κi yX7_segment m_X7_segment false 4 shM [.ref 0, .int a1, .int a2] σ (f_X7_segment a1 a2 σ) := by
  refine x_con (L := [some (.ref 0), some (.int a1), some (.int a2)]) (by decide) rfl rfl rfl ?_
  unfold f_X7_segment
  refine x_aload_n dX7_segment_0 rfl rfl ?_
  refine x_iload_n dX7_segment_1 rfl rfl ?_
  refine x_callV1i dX7_segment_2 lc_RX7_266 (c_X7_isSegment _ _) rfl rfl rfl rfl rfl (fun r1 s2 => ?_)
  refine x_jn 34 (fun (v7 : Int32) => [none, none, none]) (fun (v7 : Int32) => [.int v7]) (fun v7 s8 => ?_) (fun j9 hj9 => ?_)
  · exact x_iret dX7_segment_34 rfl
  · refine x_if_ne 13 dX7_segment_5 (by decide) (fun _ => ?_) (fun _ => ?_)
    · refine x_iload_n dX7_segment_13 rfl rfl ?_
      refine x_iconst (v := 0) dX7_segment_14 rfl ?_
      refine x_bipush (v := 6) dX7_segment_15 rfl ?_
      refine x_callS3i dX7_segment_17 lc_RX7_47 (c_X7_within _ _ _ _) rfl rfl (fun r10 s11 => ?_)
      refine x_if_eq 32 dX7_segment_20 (by decide) (fun _ => ?_) (fun _ => ?_)
      · refine x_bipush (v := -102) dX7_segment_32 rfl ?_
        exact x_sub (x_le_n (x_le_n (x_le_n x_le_e))) (hj9 (-102) _)
      · refine x_aload_n dX7_segment_23 rfl rfl ?_
        refine x_iload_n dX7_segment_24 rfl rfl ?_
        refine x_iload_n dX7_segment_25 rfl rfl ?_
        refine x_callV2i dX7_segment_26 lc_RX7_269 (c_X7_segmentNow _ _ _) rfl rfl rfl rfl rfl (fun r12 s13 => ?_)
        refine x_goto 34 dX7_segment_29 (by decide) ?_
        exact x_sub (x_le_n (x_le_n (x_le_n x_le_e))) (hj9 r12 _)
    · refine x_bipush (v := -101) dX7_segment_8 rfl ?_
      refine x_goto 34 dX7_segment_10 (by decide) ?_
      exact x_sub (x_le_n (x_le_n (x_le_n x_le_e))) (hj9 (-101) _)

theorem c_X7_above (a1 : Int32) (a2 : Int32) (σ : xSt) : CON κi yX7_above m_X7_above false 2 shM [.ref 0, .int a1, .int a2] σ (f_X7_above a1 a2 σ) := by
  refine x_con (L := [some (.ref 0), some (.int a1), some (.int a2)]) (by decide) rfl rfl rfl ?_
  unfold f_X7_above
  refine x_aload_n dX7_above_0 rfl rfl ?_
  refine x_iload_n dX7_above_1 rfl rfl ?_
  refine x_callV1i dX7_above_2 lc_RX7_266 (c_X7_isSegment _ _) rfl rfl rfl rfl rfl (fun r1 s2 => ?_)
  refine x_jn 31 (fun (v10 : Int32) => [none, none, none]) (fun (v10 : Int32) => [.int v10]) (fun v10 s11 => ?_) (fun j12 hj12 => ?_)
  · exact x_iret dX7_above_31 rfl
  · refine x_jn 29 (fun (v15 : Unit) => [none, none, none]) (fun (v15 : Unit) => []) (fun v15 s16 => ?_) (fun j17 hj17 => ?_)
    · refine x_bipush (v := -101) dX7_above_29 rfl ?_
      exact x_sub (x_le_n (x_le_n (x_le_n x_le_e))) (hj12 (-101) _)
    · refine x_if_eq 29 dX7_above_5 (by decide) (fun _ => ?_) (fun _ => ?_)
      · exact x_sub (x_le_n (x_le_n (x_le_n x_le_e))) (hj17 () _)
      · refine x_aload_n dX7_above_8 rfl rfl ?_
        refine x_iload_n dX7_above_9 rfl rfl ?_
        refine x_callV1i dX7_above_10 lc_RX7_266 (c_X7_isSegment _ _) rfl rfl rfl rfl rfl (fun r18 s19 => ?_)
        refine x_if_eq 29 dX7_above_13 (by decide) (fun _ => ?_) (fun _ => ?_)
        · exact x_sub (x_le_n (x_le_n (x_le_n x_le_e))) (hj17 () _)
        · refine x_aload_n dX7_above_16 rfl rfl ?_
          refine x_getR dX7_above_17 lk_RX7_25 rfl rfl ?_
          refine x_iload_n dX7_above_20 rfl rfl ?_
          refine x_iald dX7_above_21 rfl ?_
          refine x_iload_n dX7_above_22 rfl rfl ?_
          refine x_ishr dX7_above_23 ?_
          refine x_iconst (v := 1) dX7_above_24 rfl ?_
          refine x_iand dX7_above_25 ?_
          refine x_goto 31 dX7_above_26 (by decide) ?_
          exact x_sub (x_le_n (x_le_n (x_le_n x_le_e))) (hj12 (((s19.1 6 a1.toNatClampNeg) >>> (a2 &&& 31)) &&& 1) _)

theorem c_X7_isFree (a1 : Int32) (a2 : Int32) (σ : xSt) : CON κi yX7_isFree m_X7_isFree false 1 shM [.ref 0, .int a1, .int a2] σ (f_X7_isFree a1 a2 σ) := by
  refine x_con (L := [some (.ref 0), some (.int a1), some (.int a2)]) (by decide) rfl rfl rfl ?_
  unfold f_X7_isFree
  refine x_aload_n dX7_isFree_0 rfl rfl ?_
  refine x_iload_n dX7_isFree_1 rfl rfl ?_
  refine x_iload_n dX7_isFree_2 rfl rfl ?_
  refine x_callV2i dX7_isFree_3 lc_RX7_179 (c_X7_isMet _ _ _) rfl rfl rfl rfl rfl (fun r1 s2 => ?_)
  refine x_jn 40 (fun (v14 : Int32) => [none, none, none]) (fun (v14 : Int32) => [.int v14]) (fun v14 s15 => ?_) (fun j16 hj16 => ?_)
  · exact x_zret dX7_isFree_40 rfl
  · refine x_jn 39 (fun (v21 : Unit) => [none, none, none]) (fun (v21 : Unit) => []) (fun v21 s22 => ?_) (fun j23 hj23 => ?_)
    · refine x_iconst (v := 0) dX7_isFree_39 rfl ?_
      exact x_sub (x_le_n (x_le_n (x_le_n x_le_e))) (hj16 0 _)
    · refine x_if_ne 39 dX7_isFree_6 (by decide) (fun _ => ?_) (fun _ => ?_)
      · exact x_sub (x_le_n (x_le_n (x_le_n x_le_e))) (hj23 () _)
      · refine x_aload_n dX7_isFree_9 rfl rfl ?_
        refine x_getR dX7_isFree_10 lk_RX7_28 rfl rfl ?_
        refine x_iload_n dX7_isFree_13 rfl rfl ?_
        refine x_iald dX7_isFree_14 rfl ?_
        refine x_iload_n dX7_isFree_15 rfl rfl ?_
        refine x_callS2i dX7_isFree_16 lc_RX7_43 (c_X7_isBit _ _ _) rfl rfl (fun r24 s25 => ?_)
        refine x_if_ne 39 dX7_isFree_19 (by decide) (fun _ => ?_) (fun _ => ?_)
        · exact x_sub (x_le_n (x_le_n (x_le_n x_le_e))) (hj23 () _)
        · refine x_aload_n dX7_isFree_22 rfl rfl ?_
          refine x_getR dX7_isFree_23 lk_RX7_28 rfl rfl ?_
          refine x_iload_n dX7_isFree_26 rfl rfl ?_
          refine x_iald dX7_isFree_27 rfl ?_
          refine x_iload_n dX7_isFree_28 rfl rfl ?_
          refine x_callS2i dX7_isFree_29 lc_RX7_43 (c_X7_isBit _ _ _) rfl rfl (fun r26 s27 => ?_)
          refine x_if_ne 39 dX7_isFree_32 (by decide) (fun _ => ?_) (fun _ => ?_)
          · exact x_sub (x_le_n (x_le_n (x_le_n x_le_e))) (hj23 () _)
          · refine x_iconst (v := 1) dX7_isFree_35 rfl ?_
            refine x_goto 40 dX7_isFree_36 (by decide) ?_
            exact x_sub (x_le_n (x_le_n (x_le_n x_le_e))) (hj16 1 _)

theorem c_X7_may (a1 : Int32) (a2 : Int32) (σ : xSt) : CON κi yX7_may m_X7_may false 2 shM [.ref 0, .int a1, .int a2] σ (f_X7_may a1 a2 σ) := by
  refine x_con (L := [some (.ref 0), some (.int a1), some (.int a2)]) (by decide) rfl rfl rfl ?_
  unfold f_X7_may
  refine x_aload_n dX7_may_0 rfl rfl ?_
  refine x_iload_n dX7_may_1 rfl rfl ?_
  refine x_callV1i dX7_may_2 lc_RX7_266 (c_X7_isSegment _ _) rfl rfl rfl rfl rfl (fun r1 s2 => ?_)
  refine x_jn 35 (fun (v14 : Int32) => [none, none, none]) (fun (v14 : Int32) => [.int v14]) (fun v14 s15 => ?_) (fun j16 hj16 => ?_)
  · exact x_iret dX7_may_35 rfl
  · refine x_jn 16 (fun (v21 : Unit) => [none, none, none]) (fun (v21 : Unit) => []) (fun v21 s22 => ?_) (fun j23 hj23 => ?_)
    · refine x_bipush (v := -101) dX7_may_16 rfl ?_
      refine x_goto 35 dX7_may_18 (by decide) ?_
      exact x_sub (x_le_n (x_le_n (x_le_n x_le_e))) (hj16 (-101) _)
    · refine x_if_eq 16 dX7_may_5 (by decide) (fun _ => ?_) (fun _ => ?_)
      · exact x_sub (x_le_n (x_le_n (x_le_n x_le_e))) (hj23 () _)
      · refine x_aload_n dX7_may_8 rfl rfl ?_
        refine x_iload_n dX7_may_9 rfl rfl ?_
        refine x_callV1i dX7_may_10 lc_RX7_266 (c_X7_isSegment _ _) rfl rfl rfl rfl rfl (fun r24 s25 => ?_)
        refine x_if_ne 21 dX7_may_13 (by decide) (fun _ => ?_) (fun _ => ?_)
        · refine x_aload_n dX7_may_21 rfl rfl ?_
          refine x_iload_n dX7_may_22 rfl rfl ?_
          refine x_iload_n dX7_may_23 rfl rfl ?_
          refine x_callV2i dX7_may_24 lc_RX7_272 (c_X7_isFree _ _ _) rfl rfl rfl rfl rfl (fun r26 s27 => ?_)
          refine x_if_eq 34 dX7_may_27 (by decide) (fun _ => ?_) (fun _ => ?_)
          · refine x_iconst (v := 0) dX7_may_34 rfl ?_
            exact x_sub (x_le_n (x_le_n (x_le_n x_le_e))) (hj16 0 _)
          · refine x_iconst (v := 1) dX7_may_30 rfl ?_
            refine x_goto 35 dX7_may_31 (by decide) ?_
            exact x_sub (x_le_n (x_le_n (x_le_n x_le_e))) (hj16 1 _)
        · exact x_sub (x_le_n (x_le_n (x_le_n x_le_e))) (hj23 () _)

theorem c_X7_ring (a1 : Int32) (σ : xSt) : CON κi yX7_ring m_X7_ring false 1 shM [.ref 0, .int a1] σ (f_X7_ring a1 σ) := by
  refine x_con (L := [some (.ref 0), some (.int a1)]) (by decide) rfl rfl rfl ?_
  unfold f_X7_ring
  refine x_iload_n dX7_ring_0 rfl rfl ?_
  refine x_iconst (v := 0) dX7_ring_1 rfl ?_
  refine x_aload_n dX7_ring_2 rfl rfl ?_
  refine x_getI dX7_ring_3 lk_RX7_156 rfl rfl ?_
  refine x_iconst (v := 1) dX7_ring_6 rfl ?_
  refine x_isub dX7_ring_7 ?_
  refine x_callS3i dX7_ring_8 lc_RX7_47 (c_X7_within _ _ _ _) rfl rfl (fun r1 s2 => ?_)
  refine x_jn 25 (fun (v3 : Int32) => [none, none]) (fun (v3 : Int32) => [.int v3]) (fun v3 s4 => ?_) (fun j5 hj5 => ?_)
  · exact x_iret dX7_ring_25 rfl
  · refine x_if_eq 23 dX7_ring_11 (by decide) (fun _ => ?_) (fun _ => ?_)
    · refine x_bipush (v := -101) dX7_ring_23 rfl ?_
      exact x_sub (x_le_n (x_le_n x_le_e)) (hj5 (-101) _)
    · refine x_aload_n dX7_ring_14 rfl rfl ?_
      refine x_getR dX7_ring_15 lk_RX7_31 rfl rfl ?_
      refine x_iload_n dX7_ring_18 rfl rfl ?_
      refine x_iald dX7_ring_19 rfl ?_
      refine x_goto 25 dX7_ring_20 (by decide) ?_
      exact x_sub (x_le_n (x_le_n x_le_e)) (hj5 (s2.1 8 a1.toNatClampNeg) _)

theorem c_X7_zone (a1 : Int32) (σ : xSt) : CON κi yX7_zone m_X7_zone false 5 shM [.ref 0, .int a1] σ (f_X7_zone a1 σ) := by
  refine x_con (L := [some (.ref 0), some (.int a1)]) (by decide) rfl rfl rfl ?_
  unfold f_X7_zone
  refine x_iload_n dX7_zone_0 rfl rfl ?_
  refine x_jn 23 (fun (v12 : Int32) => [none, none]) (fun (v12 : Int32) => [.int v12]) (fun v12 s13 => ?_) (fun j14 hj14 => ?_)
  · exact x_iret dX7_zone_23 rfl
  · refine x_jn 21 (fun (v19 : Unit) => [none, none]) (fun (v19 : Unit) => []) (fun v19 s20 => ?_) (fun j21 hj21 => ?_)
    · refine x_bipush (v := -101) dX7_zone_21 rfl ?_
      exact x_sub (x_le_n (x_le_n x_le_e)) (hj14 (-101) _)
    · refine x_if_lt 21 dX7_zone_1 (by decide) (fun _ => ?_) (fun _ => ?_)
      · exact x_sub (x_le_n (x_le_n x_le_e)) (hj21 () _)
      · refine x_aload_n dX7_zone_4 rfl rfl ?_
        refine x_iload_n dX7_zone_5 rfl rfl ?_
        refine x_callV1i dX7_zone_6 lc_RX7_230 (c_X7_zones _ _) rfl rfl rfl rfl rfl (fun r22 s23 => ?_)
        refine x_iconst (v := -1) dX7_zone_9 rfl ?_
        refine x_icmp_eq 21 dX7_zone_10 (by decide) (fun _ => ?_) (fun _ => ?_)
        · exact x_sub (x_le_n (x_le_n x_le_e)) (hj21 () _)
        · refine x_aload_n dX7_zone_13 rfl rfl ?_
          refine x_iload_n dX7_zone_14 rfl rfl ?_
          refine x_callV1i dX7_zone_15 lc_RX7_230 (c_X7_zones _ _) rfl rfl rfl rfl rfl (fun r24 s25 => ?_)
          refine x_goto 23 dX7_zone_18 (by decide) ?_
          exact x_sub (x_le_n (x_le_n x_le_e)) (hj14 r24 _)

theorem c_X7_put (a1 : Int32) (a2 : Int32) (a3 : Int32) (σ : xSt) : CON κi yX7_put m_X7_put false 7 shM [.ref 0, .int a1, .int a2, .int a3] σ (f_X7_put a1 a2 a3 σ) := by
  refine x_con (L := [some (.ref 0), some (.int a1), some (.int a2), some (.int a3), none]) (by decide) rfl rfl rfl ?_
  unfold f_X7_put
  refine x_aload_n dX7_put_0 rfl rfl ?_
  refine x_iload_n dX7_put_1 rfl rfl ?_
  refine x_callV1i dX7_put_2 lc_RX7_242 (c_X7_isColumn _ _) rfl rfl rfl rfl rfl (fun r1 s2 => ?_)
  refine x_if_ne 11 dX7_put_5 (by decide) (fun _ => ?_) (fun _ => ?_)
  · refine x_iload_n dX7_put_11 rfl rfl ?_
    refine x_iconst (v := 0) dX7_put_12 rfl ?_
    refine x_iconst (v := 1) dX7_put_13 rfl ?_
    refine x_callS3i dX7_put_14 lc_RX7_47 (c_X7_within _ _ _ _) rfl rfl (fun r3 s4 => ?_)
    refine x_jn 29 (fun (v11 : Unit) => [none, none, none, none, none]) (fun (v11 : Unit) => []) (fun v11 s12 => ?_) (fun j13 hj13 => ?_)
    · refine x_bipush (v := -102) dX7_put_29 rfl ?_
      exact x_iret dX7_put_31 rfl
    · refine x_if_eq 29 dX7_put_17 (by decide) (fun _ => ?_) (fun _ => ?_)
      · exact x_sub (x_le_n (x_le_n (x_le_n (x_le_n (x_le_n x_le_e))))) (hj13 () _)
      · refine x_iload_n dX7_put_20 rfl rfl ?_
        refine x_iconst (v := -1) dX7_put_21 rfl ?_
        refine x_iconst (v := 5) dX7_put_22 rfl ?_
        refine x_callS3i dX7_put_23 lc_RX7_47 (c_X7_within _ _ _ _) rfl rfl (fun r14 s15 => ?_)
        refine x_if_ne 32 dX7_put_26 (by decide) (fun _ => ?_) (fun _ => ?_)
        · refine x_aload_n dX7_put_32 rfl rfl ?_
          refine x_getR dX7_put_33 lk_RX7_7 rfl rfl ?_
          refine x_iconst (v := 2) dX7_put_36 rfl ?_
          refine x_iload_n dX7_put_37 rfl rfl ?_
          refine x_imul dX7_put_38 ?_
          refine x_iload_n dX7_put_39 rfl rfl ?_
          refine x_iadd dX7_put_40 ?_
          refine x_iald dX7_put_41 rfl ?_
          refine x_istoreB dX7_put_42 rfl rfl (fun x16 => ?_)
          refine x_aload_n dX7_put_44 rfl rfl ?_
          refine x_getR dX7_put_45 lk_RX7_7 rfl rfl ?_
          refine x_iconst (v := 2) dX7_put_48 rfl ?_
          refine x_iload_n dX7_put_49 rfl rfl ?_
          refine x_imul dX7_put_50 ?_
          refine x_iload_n dX7_put_51 rfl rfl ?_
          refine x_iadd dX7_put_52 ?_
          refine x_iload_n dX7_put_53 rfl rfl ?_
          refine x_iastB dX7_put_54 rfl (fun s17 => ?_)
          refine x_aload_n dX7_put_55 rfl rfl ?_
          refine x_callV0v dX7_put_56 lc_RX7_99 (c_X7_layNew _) rfl rfl rfl rfl rfl (fun r18 s19 => ?_)
          refine x_iload dX7_put_59 rfl ?_
          exact x_iret dX7_put_61 rfl
        · exact x_sub (x_le_n (x_le_n (x_le_n (x_le_n (x_le_n x_le_e))))) (hj13 () _)
  · refine x_bipush (v := -101) dX7_put_8 rfl ?_
    exact x_iret dX7_put_10 rfl

theorem c_X7_set (a1 : Int32) (a2 : Int32) (σ : xSt) : CON κi yX7_set m_X7_set false 2 shM [.ref 0, .int a1, .int a2] σ (f_X7_set a1 a2 σ) := by
  refine x_con (L := [some (.ref 0), some (.int a1), some (.int a2), none]) (by decide) rfl rfl rfl ?_
  unfold f_X7_set
  refine x_aload_n dX7_set_0 rfl rfl ?_
  refine x_iload_n dX7_set_1 rfl rfl ?_
  refine x_callV1i dX7_set_2 lc_RX7_266 (c_X7_isSegment _ _) rfl rfl rfl rfl rfl (fun r1 s2 => ?_)
  refine x_if_ne 11 dX7_set_5 (by decide) (fun _ => ?_) (fun _ => ?_)
  · refine x_iload_n dX7_set_11 rfl rfl ?_
    refine x_iconst (v := -1) dX7_set_12 rfl ?_
    refine x_bipush (v := 13) dX7_set_13 rfl ?_
    refine x_callS3i dX7_set_15 lc_RX7_47 (c_X7_within _ _ _ _) rfl rfl (fun r3 s4 => ?_)
    refine x_if_ne 24 dX7_set_18 (by decide) (fun _ => ?_) (fun _ => ?_)
    · refine x_aload_n dX7_set_24 rfl rfl ?_
      refine x_getR dX7_set_25 lk_RX7_22 rfl rfl ?_
      refine x_iload_n dX7_set_28 rfl rfl ?_
      refine x_iald dX7_set_29 rfl ?_
      refine x_istore_nB dX7_set_30 rfl rfl rfl (fun x5 => ?_)
      refine x_aload_n dX7_set_31 rfl rfl ?_
      refine x_getR dX7_set_32 lk_RX7_22 rfl rfl ?_
      refine x_iload_n dX7_set_35 rfl rfl ?_
      refine x_iload_n dX7_set_36 rfl rfl ?_
      refine x_iastB dX7_set_37 rfl (fun s6 => ?_)
      refine x_iload_n dX7_set_38 rfl rfl ?_
      exact x_iret dX7_set_39 rfl
    · refine x_bipush (v := -102) dX7_set_21 rfl ?_
      exact x_iret dX7_set_23 rfl
  · refine x_bipush (v := -101) dX7_set_8 rfl ?_
    exact x_iret dX7_set_10 rfl

theorem c_X7_cell (a1 : Int32) (a2 : Int32) (a3 : Int32) (σ : xSt) : CON κi yX7_cell m_X7_cell false 4 shM [.ref 0, .int a1, .int a2, .int a3] σ (f_X7_cell a1 a2 a3 σ) := by
  refine x_con (L := [some (.ref 0), some (.int a1), some (.int a2), some (.int a3)]) (by decide) rfl rfl rfl ?_
  unfold f_X7_cell
  refine x_aload_n dX7_cell_0 rfl rfl ?_
  refine x_callV0i dX7_cell_1 lc_RX7_197 (c_X7_isThere _) rfl rfl rfl rfl rfl (fun r1 s2 => ?_)
  refine x_jn 29 (fun (v40 : Unit) => [none, none, none, none]) (fun (v40 : Unit) => []) (fun v40 s41 => ?_) (fun j42 hj42 => ?_)
  · refine x_bipush (v := -101) dX7_cell_29 rfl ?_
    exact x_iret dX7_cell_31 rfl
  · refine x_if_eq 29 dX7_cell_4 (by decide) (fun _ => ?_) (fun _ => ?_)
    · exact x_sub (x_le_n (x_le_n (x_le_n (x_le_n x_le_e)))) (hj42 () _)
    · refine x_iload_n dX7_cell_7 rfl rfl ?_
      refine x_iconst (v := 0) dX7_cell_8 rfl ?_
      refine x_aload_n dX7_cell_9 rfl rfl ?_
      refine x_callV0i dX7_cell_10 lc_RX7_185 (c_X7_depth _) rfl rfl rfl rfl rfl (fun r43 s44 => ?_)
      refine x_iconst (v := 1) dX7_cell_13 rfl ?_
      refine x_isub dX7_cell_14 ?_
      refine x_callS3i dX7_cell_15 lc_RX7_47 (c_X7_within _ _ _ _) rfl rfl (fun r45 s46 => ?_)
      refine x_if_eq 29 dX7_cell_18 (by decide) (fun _ => ?_) (fun _ => ?_)
      · exact x_sub (x_le_n (x_le_n (x_le_n (x_le_n x_le_e)))) (hj42 () _)
      · refine x_aload_n dX7_cell_21 rfl rfl ?_
        refine x_iload_n dX7_cell_22 rfl rfl ?_
        refine x_callV1i dX7_cell_23 lc_RX7_242 (c_X7_isColumn _ _) rfl rfl rfl rfl rfl (fun r47 s48 => ?_)
        refine x_if_ne 32 dX7_cell_26 (by decide) (fun _ => ?_) (fun _ => ?_)
        · refine x_iload_n dX7_cell_32 rfl rfl ?_
          refine x_iconst (v := 0) dX7_cell_33 rfl ?_
          refine x_iconst (v := 1) dX7_cell_34 rfl ?_
          refine x_callS3i dX7_cell_35 lc_RX7_47 (c_X7_within _ _ _ _) rfl rfl (fun r49 s50 => ?_)
          refine x_jn 68 (fun (v64 : Int32) => [none, none, none, none]) (fun (v64 : Int32) => [.int v64]) (fun v64 s65 => ?_) (fun j66 hj66 => ?_)
          · exact x_iret dX7_cell_68 rfl
          · refine x_if_ne 46 dX7_cell_38 (by decide) (fun _ => ?_) (fun _ => ?_)
            · refine x_iload_n dX7_cell_46 rfl rfl ?_
              refine x_jn 65 (fun (v71 : Int32) => [none, none, none, none]) (fun (v71 : Int32) => [.int v71]) (fun v71 s72 => ?_) (fun j73 hj73 => ?_)
              · refine x_callS1i dX7_cell_65 lc_RX7_159 (c_X7_leastOf _ _) rfl rfl (fun r74 s75 => ?_)
                exact x_sub (x_le_n (x_le_n (x_le_n (x_le_n x_le_e)))) (hj66 r74 _)
              · refine x_if_ne 59 dX7_cell_47 (by decide) (fun _ => ?_) (fun _ => ?_)
                · refine x_aload_n dX7_cell_59 rfl rfl ?_
                  refine x_iload_n dX7_cell_60 rfl rfl ?_
                  refine x_iload_n dX7_cell_61 rfl rfl ?_
                  refine x_callV2i dX7_cell_62 lc_RX7_194 (c_X7_upright _ _ _) rfl rfl rfl rfl rfl (fun r76 s77 => ?_)
                  exact x_sub (x_le_n (x_le_n (x_le_n (x_le_n x_le_e)))) (hj73 r76 _)
                · refine x_aload_n dX7_cell_50 rfl rfl ?_
                  refine x_iload_n dX7_cell_51 rfl rfl ?_
                  refine x_iload_n dX7_cell_52 rfl rfl ?_
                  refine x_callV2i dX7_cell_53 lc_RX7_188 (c_X7_flat _ _ _) rfl rfl rfl rfl rfl (fun r78 s79 => ?_)
                  refine x_goto 65 dX7_cell_56 (by decide) ?_
                  exact x_sub (x_le_n (x_le_n (x_le_n (x_le_n x_le_e)))) (hj73 r78 _)
            · refine x_bipush (v := -102) dX7_cell_41 rfl ?_
              refine x_goto 68 dX7_cell_43 (by decide) ?_
              exact x_sub (x_le_n (x_le_n (x_le_n (x_le_n x_le_e)))) (hj66 (-102) _)
        · exact x_sub (x_le_n (x_le_n (x_le_n (x_le_n x_le_e)))) (hj42 () _)

theorem t_X7_netsThere_4 (k : Int32 → xSt → Option (Int32 × xSt)) (hk : ∀ (w1 : Int32) (σ : xSt), XP κi false m_X7_netsThere 1 shM 32 [none, some (.int w1), none] [] σ (k w1 σ)) : ∀ (n : Nat) (w1 : Int32) (w2 : Int32) (σ : xSt), XP κi false m_X7_netsThere 1 shM 4 [some (.ref 0), some (.int w1), some (.int w2)] [] σ (f_X7_netsThere_4 k n w1 w2 σ) := by
  intro n
  induction n with
  | zero => intro w1 w2 σ; exact x_none
  | succ n ih =>
    intro w1 w2 σ
    rw [f_X7_netsThere_4]
    refine x_iload_n dX7_netsThere_4 rfl rfl ?_
    refine x_bipush (v := 6) dX7_netsThere_5 rfl ?_
    refine x_icmp_ge 32 dX7_netsThere_7 (by decide) (fun _ => ?_) (fun _ => ?_)
    · exact x_sub (x_le_n (x_le_s rfl (x_le_n x_le_e))) (hk _ _)
    · refine x_iload_n dX7_netsThere_10 rfl rfl ?_
      refine x_aload_n dX7_netsThere_11 rfl rfl ?_
      refine x_iload_n dX7_netsThere_12 rfl rfl ?_
      refine x_callV1i dX7_netsThere_13 lc_RX7_245 (c_X7_pinsOf _ _) rfl rfl rfl rfl rfl (fun r1 s2 => ?_)
      refine x_jn 24 (fun (v3 : Int32) => [some (.ref 0), none, some (.int w2)]) (fun (v3 : Int32) => [.int v3, .int w1]) (fun v3 s4 => ?_) (fun j5 hj5 => ?_)
      · refine x_iadd dX7_netsThere_24 ?_
        refine x_istore_nB dX7_netsThere_25 rfl rfl rfl (fun x6 => ?_)
        refine x_iinc dX7_netsThere_26 rfl rfl rfl rfl ?_
        refine x_goto 4 dX7_netsThere_29 (by decide) ?_
        exact x_sub (x_le_s rfl (x_le_s rfl (x_le_s rfl x_le_e))) (ih _ _ _)
      · refine x_if_le 23 dX7_netsThere_16 (by decide) (fun _ => ?_) (fun _ => ?_)
        · refine x_iconst (v := 0) dX7_netsThere_23 rfl ?_
          exact x_sub (x_le_s rfl (x_le_n (x_le_s rfl x_le_e))) (hj5 0 _)
        · refine x_iconst (v := 1) dX7_netsThere_19 rfl ?_
          refine x_goto 24 dX7_netsThere_20 (by decide) ?_
          exact x_sub (x_le_s rfl (x_le_n (x_le_s rfl x_le_e))) (hj5 1 _)

theorem c_X7_netsThere (σ : xSt) : CON κi yX7_netsThere m_X7_netsThere false 1 shM [.ref 0] σ (f_X7_netsThere σ) := by
  refine x_con (L := [some (.ref 0), none, none]) (by decide) rfl rfl rfl ?_
  unfold f_X7_netsThere
  refine x_iconst (v := 0) dX7_netsThere_0 rfl ?_
  refine x_istore_n dX7_netsThere_1 rfl rfl rfl ?_
  refine x_iconst (v := 0) dX7_netsThere_2 rfl ?_
  refine x_istore_n dX7_netsThere_3 rfl rfl rfl ?_
  refine x_sub (x_le_s rfl (x_le_s rfl (x_le_s rfl x_le_e))) (t_X7_netsThere_4 _ (fun e7 s8 => ?_) FU _ _ _)
  refine x_iload_n dX7_netsThere_32 rfl rfl ?_
  exact x_iret dX7_netsThere_33 rfl

theorem c_X7_howMany (a1 : Int32) (σ : xSt) : CON κi yX7_howMany m_X7_howMany false 2 shM [.ref 0, .int a1] σ (f_X7_howMany a1 σ) := by
  refine x_con (L := [some (.ref 0), some (.int a1)]) (by decide) rfl rfl rfl ?_
  unfold f_X7_howMany
  refine x_iload_n dX7_howMany_0 rfl rfl ?_
  refine x_ite (fun c1 => ?_) (fun c1 => ?_)
  · refine x_tabI 52 dX7_howMany_1 c1 (by decide) (by decide) rfl (by decide) ?_
    refine x_aload_n dX7_howMany_52 rfl rfl ?_
    refine x_getI dX7_howMany_53 lk_RX7_87 rfl rfl ?_
    exact x_iret dX7_howMany_56 rfl
  refine x_ite (fun c4 => ?_) (fun c4 => ?_)
  · refine x_tabI 57 dX7_howMany_1 c4 (by decide) (by decide) rfl (by decide) ?_
    refine x_iconst (v := 2) dX7_howMany_57 rfl ?_
    refine x_aload_n dX7_howMany_58 rfl rfl ?_
    refine x_getI dX7_howMany_59 lk_RX7_87 rfl rfl ?_
    refine x_imul dX7_howMany_62 ?_
    refine x_aload_n dX7_howMany_63 rfl rfl ?_
    refine x_iconst (v := -1) dX7_howMany_64 rfl ?_
    refine x_callV1i dX7_howMany_65 lc_RX7_245 (c_X7_pinsOf _ _) rfl rfl rfl rfl rfl (fun r2 s3 => ?_)
    refine x_isub dX7_howMany_68 ?_
    exact x_iret dX7_howMany_69 rfl
  refine x_ite (fun c7 => ?_) (fun c7 => ?_)
  · refine x_tabI 70 dX7_howMany_1 c7 (by decide) (by decide) rfl (by decide) ?_
    refine x_aload_n dX7_howMany_70 rfl rfl ?_
    refine x_callV0i dX7_howMany_71 lc_RX7_296 (c_X7_netsThere _) rfl rfl rfl rfl rfl (fun r5 s6 => ?_)
    exact x_iret dX7_howMany_74 rfl
  refine x_ite (fun c10 => ?_) (fun c10 => ?_)
  · refine x_tabI 75 dX7_howMany_1 c10 (by decide) (by decide) rfl (by decide) ?_
    refine x_aload_n dX7_howMany_75 rfl rfl ?_
    refine x_getI dX7_howMany_76 lk_RX7_93 rfl rfl ?_
    refine x_callS1i dX7_howMany_79 lc_RX7_191 (c_X7_size _ _) rfl rfl (fun r8 s9 => ?_)
    exact x_iret dX7_howMany_82 rfl
  refine x_ite (fun c11 => ?_) (fun c11 => ?_)
  · refine x_tabI 83 dX7_howMany_1 c11 (by decide) (by decide) rfl (by decide) ?_
    refine x_aload_n dX7_howMany_83 rfl rfl ?_
    refine x_getI dX7_howMany_84 lk_RX7_130 rfl rfl ?_
    exact x_iret dX7_howMany_87 rfl
  refine x_ite (fun c14 => ?_) (fun c14 => ?_)
  · refine x_tabI 88 dX7_howMany_1 c14 (by decide) (by decide) rfl (by decide) ?_
    refine x_aload_n dX7_howMany_88 rfl rfl ?_
    refine x_callV0i dX7_howMany_89 lc_RX7_275 (c_X7_withTrack _) rfl rfl rfl rfl rfl (fun r12 s13 => ?_)
    exact x_iret dX7_howMany_92 rfl
  refine x_ite (fun c15 => ?_) (fun c15 => ?_)
  · refine x_tabI 93 dX7_howMany_1 c15 (by decide) (by decide) rfl (by decide) ?_
    refine x_aload_n dX7_howMany_93 rfl rfl ?_
    refine x_getI dX7_howMany_94 lk_RX7_51 rfl rfl ?_
    exact x_iret dX7_howMany_97 rfl
  refine x_ite (fun c16 => ?_) (fun c16 => ?_)
  · refine x_tabI 98 dX7_howMany_1 c16 (by decide) (by decide) rfl (by decide) ?_
    refine x_aload_n dX7_howMany_98 rfl rfl ?_
    refine x_getI dX7_howMany_99 lk_RX7_96 rfl rfl ?_
    exact x_iret dX7_howMany_102 rfl
  refine x_ite (fun c17 => ?_) (fun c17 => ?_)
  · refine x_tabI 103 dX7_howMany_1 c17 (by decide) (by decide) rfl (by decide) ?_
    refine x_aload_n dX7_howMany_103 rfl rfl ?_
    refine x_getI dX7_howMany_104 lk_RX7_290 rfl rfl ?_
    exact x_iret dX7_howMany_107 rfl
  have ec1 := x_ne 0 (by decide) c1
  have ec4 := x_ne 1 (by decide) c4
  have ec7 := x_ne 2 (by decide) c7
  have ec10 := x_ne 3 (by decide) c10
  have ec11 := x_ne 4 (by decide) c11
  have ec14 := x_ne 5 (by decide) c14
  have ec15 := x_ne 6 (by decide) c15
  have ec16 := x_ne 7 (by decide) c16
  have ec17 := x_ne 8 (by decide) c17
  refine x_tabO 108 dX7_howMany_1 (by omega) (by decide) ?_
  refine x_bipush (v := -102) dX7_howMany_108 rfl ?_
  exact x_iret dX7_howMany_110 rfl

theorem c_X7_count (a1 : Int32) (σ : xSt) : CON κi yX7_count m_X7_count false 3 shM [.ref 0, .int a1] σ (f_X7_count a1 σ) := by
  refine x_con (L := [some (.ref 0), some (.int a1)]) (by decide) rfl rfl rfl ?_
  unfold f_X7_count
  refine x_aload_n dX7_count_0 rfl rfl ?_
  refine x_iload_n dX7_count_1 rfl rfl ?_
  refine x_callV1i dX7_count_2 lc_RX7_299 (c_X7_howMany _ _) rfl rfl rfl rfl rfl (fun r1 s2 => ?_)
  exact x_iret dX7_count_5 rfl

theorem c_X7_mix (a1 : Int64) (σ : xSt) : CON κv yX7_mix m_X7_mix false 0 shM [.ref 0, .long a1] σ (f_X7_mix a1 σ) := by
  refine x_con (L := [some (.ref 0), some (.long a1), none]) (by decide) rfl rfl rfl ?_
  unfold f_X7_mix
  refine x_aload_n dX7_mix_0 rfl rfl ?_
  refine x_ldc2 (v := 31) dX7_mix_1 (xT_of 1202 (by decide +kernel) (by decide +kernel)) ?_
  refine x_aload_n dX7_mix_4 rfl rfl ?_
  refine x_getL dX7_mix_5 lk_RX7_304 rfl rfl ?_
  refine x_lmul dX7_mix_8 ?_
  refine x_lload_n dX7_mix_9 rfl rfl ?_
  refine x_ladd dX7_mix_10 ?_
  refine x_putLB dX7_mix_11 lp_RX7_304 rfl rfl hu_shM (fun s1 => ?_)
  exact x_vret dX7_mix_14 rfl

theorem t_X7_mixSegments_2 (k : xSt → Option (Unit × xSt)) (hk : ∀ (σ : xSt), XP κv false m_X7_mixSegments 5 shM 36 [some (.ref 0), none, none] [] σ (k  σ)) : ∀ (n : Nat) (w1 : Int32) (σ : xSt), XP κv false m_X7_mixSegments 5 shM 2 [some (.ref 0), some (.int w1), none] [] σ (f_X7_mixSegments_2 k n w1 σ) := by
  intro n
  induction n with
  | zero => intro w1 σ; exact x_none
  | succ n ih =>
    intro w1 σ
    rw [f_X7_mixSegments_2]
    refine x_iload_n dX7_mixSegments_2 rfl rfl ?_
    refine x_bipush (v := 7) dX7_mixSegments_3 rfl ?_
    refine x_aload_n dX7_mixSegments_5 rfl rfl ?_
    refine x_getI dX7_mixSegments_6 lk_RX7_130 rfl rfl ?_
    refine x_imul dX7_mixSegments_9 ?_
    refine x_icmp_ge 36 dX7_mixSegments_10 (by decide) (fun _ => ?_) (fun _ => ?_)
    · exact x_sub (x_le_s rfl (x_le_n (x_le_n x_le_e))) (hk  _)
    · refine x_aload_n dX7_mixSegments_13 rfl rfl ?_
      refine x_aload_n dX7_mixSegments_14 rfl rfl ?_
      refine x_iload_n dX7_mixSegments_15 rfl rfl ?_
      refine x_bipush (v := 7) dX7_mixSegments_16 rfl ?_
      refine x_idiv dX7_mixSegments_18 ?_
      refine x_iload_n dX7_mixSegments_19 rfl rfl ?_
      refine x_bipush (v := 7) dX7_mixSegments_20 rfl ?_
      refine x_irem dX7_mixSegments_22 ?_
      refine x_callV2i dX7_mixSegments_23 lc_RX7_269 (c_X7_segmentNow _ _ _) rfl rfl rfl rfl rfl (fun r1 s2 => ?_)
      refine x_i2l dX7_mixSegments_26 ?_
      refine x_callV1v dX7_mixSegments_27 lc_RX7_308 (c_X7_mix _ _) rfl rfl rfl rfl rfl (fun r3 s4 => ?_)
      refine x_iinc dX7_mixSegments_30 rfl rfl rfl rfl ?_
      refine x_goto 2 dX7_mixSegments_33 (by decide) ?_
      exact x_sub (x_le_s rfl (x_le_s rfl (x_le_n x_le_e))) (ih _ _)

theorem t_X7_mixSegments_38 (k : xSt → Option (Unit × xSt)) (hk : ∀ (σ : xSt), XP κv false m_X7_mixSegments 5 shM 63 [some (.ref 0), none, none] [] σ (k  σ)) : ∀ (n : Nat) (w1 : Int32) (σ : xSt), XP κv false m_X7_mixSegments 5 shM 38 [some (.ref 0), some (.int w1), none] [] σ (f_X7_mixSegments_38 k n w1 σ) := by
  intro n
  induction n with
  | zero => intro w1 σ; exact x_none
  | succ n ih =>
    intro w1 σ
    rw [f_X7_mixSegments_38]
    refine x_iload_n dX7_mixSegments_38 rfl rfl ?_
    refine x_aload_n dX7_mixSegments_39 rfl rfl ?_
    refine x_getI dX7_mixSegments_40 lk_RX7_156 rfl rfl ?_
    refine x_icmp_ge 63 dX7_mixSegments_43 (by decide) (fun _ => ?_) (fun _ => ?_)
    · exact x_sub (x_le_s rfl (x_le_n (x_le_n x_le_e))) (hk  _)
    · refine x_aload_n dX7_mixSegments_46 rfl rfl ?_
      refine x_aload_n dX7_mixSegments_47 rfl rfl ?_
      refine x_getR dX7_mixSegments_48 lk_RX7_31 rfl rfl ?_
      refine x_iload_n dX7_mixSegments_51 rfl rfl ?_
      refine x_iald dX7_mixSegments_52 rfl ?_
      refine x_i2l dX7_mixSegments_53 ?_
      refine x_callV1v dX7_mixSegments_54 lc_RX7_308 (c_X7_mix _ _) rfl rfl rfl rfl rfl (fun r6 s7 => ?_)
      refine x_iinc dX7_mixSegments_57 rfl rfl rfl rfl ?_
      refine x_goto 38 dX7_mixSegments_60 (by decide) ?_
      exact x_sub (x_le_s rfl (x_le_s rfl (x_le_n x_le_e))) (ih _ _)

theorem t_X7_mixSegments_71 (w1 : Int32) (k : xSt → Option (Unit × xSt)) (hk : ∀ (σ : xSt), XP κv false m_X7_mixSegments 5 shM 92 [none, none, none] [] σ (k  σ)) : ∀ (n : Nat) (w2 : Int32) (σ : xSt), XP κv false m_X7_mixSegments 5 shM 71 [some (.ref 0), some (.int w1), some (.int w2)] [] σ (f_X7_mixSegments_71 w1 k n w2 σ) := by
  intro n
  induction n with
  | zero => intro w2 σ; exact x_none
  | succ n ih =>
    intro w2 σ
    rw [f_X7_mixSegments_71]
    refine x_iload_n dX7_mixSegments_71 rfl rfl ?_
    refine x_iload_n dX7_mixSegments_72 rfl rfl ?_
    refine x_icmp_ge 92 dX7_mixSegments_73 (by decide) (fun _ => ?_) (fun _ => ?_)
    · exact x_sub (x_le_n (x_le_n (x_le_n x_le_e))) (hk  _)
    · refine x_aload_n dX7_mixSegments_76 rfl rfl ?_
      refine x_aload_n dX7_mixSegments_77 rfl rfl ?_
      refine x_iload_n dX7_mixSegments_78 rfl rfl ?_
      refine x_callV1i dX7_mixSegments_79 lc_RX7_230 (c_X7_zones _ _) rfl rfl rfl rfl rfl (fun r11 s12 => ?_)
      refine x_i2l dX7_mixSegments_82 ?_
      refine x_callV1v dX7_mixSegments_83 lc_RX7_308 (c_X7_mix _ _) rfl rfl rfl rfl rfl (fun r13 s14 => ?_)
      refine x_iinc dX7_mixSegments_86 rfl rfl rfl rfl ?_
      refine x_goto 71 dX7_mixSegments_89 (by decide) ?_
      exact x_sub (x_le_s rfl (x_le_s rfl (x_le_s rfl x_le_e))) (ih _ _)

theorem c_X7_mixSegments (σ : xSt) : CON κv yX7_mixSegments m_X7_mixSegments false 5 shM [.ref 0] σ (f_X7_mixSegments σ) := by
  refine x_con (L := [some (.ref 0), none, none]) (by decide) rfl rfl rfl ?_
  unfold f_X7_mixSegments
  refine x_iconst (v := 0) dX7_mixSegments_0 rfl ?_
  refine x_istore_n dX7_mixSegments_1 rfl rfl rfl ?_
  refine x_sub (x_le_s rfl (x_le_s rfl (x_le_n x_le_e))) (t_X7_mixSegments_2 _ (fun  s5 => ?_) FU _ _)
  refine x_iconst (v := 0) dX7_mixSegments_36 rfl ?_
  refine x_istore_n dX7_mixSegments_37 rfl rfl rfl ?_
  refine x_sub (x_le_s rfl (x_le_s rfl (x_le_n x_le_e))) (t_X7_mixSegments_38 _ (fun  s8 => ?_) FU _ _)
  refine x_aload_n dX7_mixSegments_63 rfl rfl ?_
  refine x_iconst (v := -1) dX7_mixSegments_64 rfl ?_
  refine x_callV1i dX7_mixSegments_65 lc_RX7_230 (c_X7_zones _ _) rfl rfl rfl rfl rfl (fun r9 s10 => ?_)
  refine x_istore_n dX7_mixSegments_68 rfl rfl rfl ?_
  refine x_iconst (v := 0) dX7_mixSegments_69 rfl ?_
  refine x_istore_n dX7_mixSegments_70 rfl rfl rfl ?_
  refine x_sub (x_le_s rfl (x_le_s rfl (x_le_s rfl x_le_e))) (t_X7_mixSegments_71 _ _ (fun  s15 => ?_) FU _ _)
  exact x_vret dX7_mixSegments_92 rfl

theorem t_X7_mixChannel_2 (k : xSt → Option (Unit × xSt)) (hk : ∀ (σ : xSt), XP κv false m_X7_mixChannel 8 shM 24 [some (.ref 0), none, none, none] [] σ (k  σ)) : ∀ (n : Nat) (w1 : Int32) (σ : xSt), XP κv false m_X7_mixChannel 8 shM 2 [some (.ref 0), some (.int w1), none, none] [] σ (f_X7_mixChannel_2 k n w1 σ) := by
  intro n
  induction n with
  | zero => intro w1 σ; exact x_none
  | succ n ih =>
    intro w1 σ
    rw [f_X7_mixChannel_2]
    refine x_iload_n dX7_mixChannel_2 rfl rfl ?_
    refine x_bipush (v := 10) dX7_mixChannel_3 rfl ?_
    refine x_icmp_ge 24 dX7_mixChannel_5 (by decide) (fun _ => ?_) (fun _ => ?_)
    · exact x_sub (x_le_s rfl (x_le_n (x_le_n (x_le_n x_le_e)))) (hk  _)
    · refine x_aload_n dX7_mixChannel_8 rfl rfl ?_
      refine x_aload_n dX7_mixChannel_9 rfl rfl ?_
      refine x_iload_n dX7_mixChannel_10 rfl rfl ?_
      refine x_callV1i dX7_mixChannel_11 lc_RX7_239 (c_X7_aboutNow _ _) rfl rfl rfl rfl rfl (fun r1 s2 => ?_)
      refine x_i2l dX7_mixChannel_14 ?_
      refine x_callV1v dX7_mixChannel_15 lc_RX7_308 (c_X7_mix _ _) rfl rfl rfl rfl rfl (fun r3 s4 => ?_)
      refine x_iinc dX7_mixChannel_18 rfl rfl rfl rfl ?_
      refine x_goto 2 dX7_mixChannel_21 (by decide) ?_
      exact x_sub (x_le_s rfl (x_le_s rfl (x_le_n (x_le_n x_le_e)))) (ih _ _)

theorem t_X7_mixChannel_26 (k : xSt → Option (Unit × xSt)) (hk : ∀ (σ : xSt), XP κv false m_X7_mixChannel 8 shM 53 [some (.ref 0), none, none, none] [] σ (k  σ)) : ∀ (n : Nat) (w1 : Int32) (σ : xSt), XP κv false m_X7_mixChannel 8 shM 26 [some (.ref 0), some (.int w1), none, none] [] σ (f_X7_mixChannel_26 k n w1 σ) := by
  intro n
  induction n with
  | zero => intro w1 σ; exact x_none
  | succ n ih =>
    intro w1 σ
    rw [f_X7_mixChannel_26]
    refine x_iload_n dX7_mixChannel_26 rfl rfl ?_
    refine x_iconst (v := 2) dX7_mixChannel_27 rfl ?_
    refine x_aload_n dX7_mixChannel_28 rfl rfl ?_
    refine x_getI dX7_mixChannel_29 lk_RX7_87 rfl rfl ?_
    refine x_imul dX7_mixChannel_32 ?_
    refine x_icmp_ge 53 dX7_mixChannel_33 (by decide) (fun _ => ?_) (fun _ => ?_)
    · exact x_sub (x_le_s rfl (x_le_n (x_le_n (x_le_n x_le_e)))) (hk  _)
    · refine x_aload_n dX7_mixChannel_36 rfl rfl ?_
      refine x_aload_n dX7_mixChannel_37 rfl rfl ?_
      refine x_getR dX7_mixChannel_38 lk_RX7_7 rfl rfl ?_
      refine x_iload_n dX7_mixChannel_41 rfl rfl ?_
      refine x_iald dX7_mixChannel_42 rfl ?_
      refine x_i2l dX7_mixChannel_43 ?_
      refine x_callV1v dX7_mixChannel_44 lc_RX7_308 (c_X7_mix _ _) rfl rfl rfl rfl rfl (fun r6 s7 => ?_)
      refine x_iinc dX7_mixChannel_47 rfl rfl rfl rfl ?_
      refine x_goto 26 dX7_mixChannel_50 (by decide) ?_
      exact x_sub (x_le_s rfl (x_le_s rfl (x_le_n (x_le_n x_le_e)))) (ih _ _)

theorem t_X7_mixChannel_55 (k : xSt → Option (Unit × xSt)) (hk : ∀ (σ : xSt), XP κv false m_X7_mixChannel 8 shM 80 [some (.ref 0), none, none, none] [] σ (k  σ)) : ∀ (n : Nat) (w1 : Int32) (σ : xSt), XP κv false m_X7_mixChannel 8 shM 55 [some (.ref 0), some (.int w1), none, none] [] σ (f_X7_mixChannel_55 k n w1 σ) := by
  intro n
  induction n with
  | zero => intro w1 σ; exact x_none
  | succ n ih =>
    intro w1 σ
    rw [f_X7_mixChannel_55]
    refine x_iload_n dX7_mixChannel_55 rfl rfl ?_
    refine x_bipush (v := 6) dX7_mixChannel_56 rfl ?_
    refine x_icmp_ge 80 dX7_mixChannel_58 (by decide) (fun _ => ?_) (fun _ => ?_)
    · exact x_sub (x_le_s rfl (x_le_n (x_le_n (x_le_n x_le_e)))) (hk  _)
    · refine x_aload_n dX7_mixChannel_61 rfl rfl ?_
      refine x_aload_n dX7_mixChannel_62 rfl rfl ?_
      refine x_getI dX7_mixChannel_63 lk_RX7_93 rfl rfl ?_
      refine x_iload_n dX7_mixChannel_66 rfl rfl ?_
      refine x_ishr dX7_mixChannel_67 ?_
      refine x_iconst (v := 1) dX7_mixChannel_68 rfl ?_
      refine x_iand dX7_mixChannel_69 ?_
      refine x_i2l dX7_mixChannel_70 ?_
      refine x_callV1v dX7_mixChannel_71 lc_RX7_308 (c_X7_mix _ _) rfl rfl rfl rfl rfl (fun r9 s10 => ?_)
      refine x_iinc dX7_mixChannel_74 rfl rfl rfl rfl ?_
      refine x_goto 55 dX7_mixChannel_77 (by decide) ?_
      exact x_sub (x_le_s rfl (x_le_s rfl (x_le_n (x_le_n x_le_e)))) (ih _ _)

theorem t_X7_mixChannel_91 (w1 : Int32) (k : xSt → Option (Unit × xSt)) (hk : ∀ (σ : xSt), XP κv false m_X7_mixChannel 8 shM 112 [some (.ref 0), none, none, none] [] σ (k  σ)) : ∀ (n : Nat) (w2 : Int32) (σ : xSt), XP κv false m_X7_mixChannel 8 shM 91 [some (.ref 0), some (.int w1), some (.int w2), none] [] σ (f_X7_mixChannel_91 w1 k n w2 σ) := by
  intro n
  induction n with
  | zero => intro w2 σ; exact x_none
  | succ n ih =>
    intro w2 σ
    rw [f_X7_mixChannel_91]
    refine x_iload_n dX7_mixChannel_91 rfl rfl ?_
    refine x_iload_n dX7_mixChannel_92 rfl rfl ?_
    refine x_icmp_ge 112 dX7_mixChannel_93 (by decide) (fun _ => ?_) (fun _ => ?_)
    · exact x_sub (x_le_s rfl (x_le_n (x_le_n (x_le_n x_le_e)))) (hk  _)
    · refine x_aload_n dX7_mixChannel_96 rfl rfl ?_
      refine x_aload_n dX7_mixChannel_97 rfl rfl ?_
      refine x_iload_n dX7_mixChannel_98 rfl rfl ?_
      refine x_callV1i dX7_mixChannel_99 lc_RX7_203 (c_X7_inkNow _ _) rfl rfl rfl rfl rfl (fun r16 s17 => ?_)
      refine x_i2l dX7_mixChannel_102 ?_
      refine x_callV1v dX7_mixChannel_103 lc_RX7_308 (c_X7_mix _ _) rfl rfl rfl rfl rfl (fun r18 s19 => ?_)
      refine x_iinc dX7_mixChannel_106 rfl rfl rfl rfl ?_
      refine x_goto 91 dX7_mixChannel_109 (by decide) ?_
      exact x_sub (x_le_s rfl (x_le_s rfl (x_le_s rfl (x_le_n x_le_e)))) (ih _ _)

theorem t_X7_mixChannel_124 (w2 : Int32) (k : xSt → Option (Unit × xSt)) (hk : ∀ (σ : xSt), XP κv false m_X7_mixChannel 8 shM 159 [none, none, none, none] [] σ (k  σ)) : ∀ (n : Nat) (w3 : Int32) (σ : xSt), XP κv false m_X7_mixChannel 8 shM 124 [some (.ref 0), none, some (.int w2), some (.int w3)] [] σ (f_X7_mixChannel_124 w2 k n w3 σ) := by
  intro n
  induction n with
  | zero => intro w3 σ; exact x_none
  | succ n ih =>
    intro w3 σ
    rw [f_X7_mixChannel_124]
    refine x_iload_n dX7_mixChannel_124 rfl rfl ?_
    refine x_iload_n dX7_mixChannel_125 rfl rfl ?_
    refine x_icmp_ge 159 dX7_mixChannel_126 (by decide) (fun _ => ?_) (fun _ => ?_)
    · exact x_sub (x_le_n (x_le_n (x_le_n (x_le_n x_le_e)))) (hk  _)
    · refine x_aload_n dX7_mixChannel_129 rfl rfl ?_
      refine x_aload_n dX7_mixChannel_130 rfl rfl ?_
      refine x_iload_n dX7_mixChannel_131 rfl rfl ?_
      refine x_aload_n dX7_mixChannel_132 rfl rfl ?_
      refine x_getI dX7_mixChannel_133 lk_RX7_87 rfl rfl ?_
      refine x_idiv dX7_mixChannel_136 ?_
      refine x_iload_n dX7_mixChannel_137 rfl rfl ?_
      refine x_aload_n dX7_mixChannel_138 rfl rfl ?_
      refine x_getI dX7_mixChannel_139 lk_RX7_87 rfl rfl ?_
      refine x_irem dX7_mixChannel_142 ?_
      refine x_callV2i dX7_mixChannel_143 lc_RX7_194 (c_X7_upright _ _ _) rfl rfl rfl rfl rfl (fun r24 s25 => ?_)
      refine x_callS1i dX7_mixChannel_146 lc_RX7_159 (c_X7_leastOf _ _) rfl rfl (fun r26 s27 => ?_)
      refine x_i2l dX7_mixChannel_149 ?_
      refine x_callV1v dX7_mixChannel_150 lc_RX7_308 (c_X7_mix _ _) rfl rfl rfl rfl rfl (fun r28 s29 => ?_)
      refine x_iinc dX7_mixChannel_153 rfl rfl rfl rfl ?_
      refine x_goto 124 dX7_mixChannel_156 (by decide) ?_
      exact x_sub (x_le_s rfl (x_le_n (x_le_s rfl (x_le_s rfl x_le_e)))) (ih _ _)

theorem c_X7_mixChannel (σ : xSt) : CON κv yX7_mixChannel m_X7_mixChannel false 8 shM [.ref 0] σ (f_X7_mixChannel σ) := by
  refine x_con (L := [some (.ref 0), none, none, none]) (by decide) rfl rfl rfl ?_
  unfold f_X7_mixChannel
  refine x_iconst (v := 0) dX7_mixChannel_0 rfl ?_
  refine x_istore_n dX7_mixChannel_1 rfl rfl rfl ?_
  refine x_sub (x_le_s rfl (x_le_s rfl (x_le_n (x_le_n x_le_e)))) (t_X7_mixChannel_2 _ (fun  s5 => ?_) FU _ _)
  refine x_iconst (v := 0) dX7_mixChannel_24 rfl ?_
  refine x_istore_n dX7_mixChannel_25 rfl rfl rfl ?_
  refine x_sub (x_le_s rfl (x_le_s rfl (x_le_n (x_le_n x_le_e)))) (t_X7_mixChannel_26 _ (fun  s8 => ?_) FU _ _)
  refine x_iconst (v := 0) dX7_mixChannel_53 rfl ?_
  refine x_istore_n dX7_mixChannel_54 rfl rfl rfl ?_
  refine x_sub (x_le_s rfl (x_le_s rfl (x_le_n (x_le_n x_le_e)))) (t_X7_mixChannel_55 _ (fun  s11 => ?_) FU _ _)
  refine x_aload_n dX7_mixChannel_80 rfl rfl ?_
  refine x_callV0v dX7_mixChannel_81 lc_RX7_312 (c_X7_mixSegments _) rfl rfl rfl rfl rfl (fun r12 s13 => ?_)
  refine x_aload_n dX7_mixChannel_84 rfl rfl ?_
  refine x_callV0i dX7_mixChannel_85 lc_RX7_200 (c_X7_inkLength _) rfl rfl rfl rfl rfl (fun r14 s15 => ?_)
  refine x_istore_n dX7_mixChannel_88 rfl rfl rfl ?_
  refine x_iconst (v := 0) dX7_mixChannel_89 rfl ?_
  refine x_istore_n dX7_mixChannel_90 rfl rfl rfl ?_
  refine x_sub (x_le_s rfl (x_le_s rfl (x_le_s rfl (x_le_n x_le_e)))) (t_X7_mixChannel_91 _ _ (fun  s20 => ?_) FU _ _)
  refine x_aload_n dX7_mixChannel_112 rfl rfl ?_
  refine x_callV0i dX7_mixChannel_113 lc_RX7_185 (c_X7_depth _) rfl rfl rfl rfl rfl (fun r21 s22 => ?_)
  refine x_aload_n dX7_mixChannel_116 rfl rfl ?_
  refine x_getI dX7_mixChannel_117 lk_RX7_87 rfl rfl ?_
  refine x_imul dX7_mixChannel_120 ?_
  refine x_istore_nB dX7_mixChannel_121 rfl rfl rfl (fun x23 => ?_)
  refine x_iconst (v := 0) dX7_mixChannel_122 rfl ?_
  refine x_istore_n dX7_mixChannel_123 rfl rfl rfl ?_
  refine x_sub (x_le_s rfl (x_le_n (x_le_s rfl (x_le_s rfl x_le_e)))) (t_X7_mixChannel_124 _ _ (fun  s30 => ?_) FU _ _)
  exact x_vret dX7_mixChannel_159 rfl

theorem t_X7_digest_20 (k : xSt → Option (Int64 × xSt)) (hk : ∀ (σ : xSt), XP κl false m_X7_digest 9 shM 45 [some (.ref 0), none] [] σ (k  σ)) : ∀ (n : Nat) (w1 : Int32) (σ : xSt), XP κl false m_X7_digest 9 shM 20 [some (.ref 0), some (.int w1)] [] σ (f_X7_digest_20 k n w1 σ) := by
  intro n
  induction n with
  | zero => intro w1 σ; exact x_none
  | succ n ih =>
    intro w1 σ
    rw [f_X7_digest_20]
    refine x_iload_n dX7_digest_20 rfl rfl ?_
    refine x_aload_n dX7_digest_21 rfl rfl ?_
    refine x_getI dX7_digest_22 lk_RX7_51 rfl rfl ?_
    refine x_icmp_ge 45 dX7_digest_25 (by decide) (fun _ => ?_) (fun _ => ?_)
    · exact x_sub (x_le_s rfl (x_le_n x_le_e)) (hk  _)
    · refine x_aload_n dX7_digest_28 rfl rfl ?_
      refine x_aload_n dX7_digest_29 rfl rfl ?_
      refine x_getR dX7_digest_30 lk_RX7_34 rfl rfl ?_
      refine x_iload_n dX7_digest_33 rfl rfl ?_
      refine x_iald dX7_digest_34 rfl ?_
      refine x_i2l dX7_digest_35 ?_
      refine x_callV1v dX7_digest_36 lc_RX7_308 (c_X7_mix _ _) rfl rfl rfl rfl rfl (fun r9 s10 => ?_)
      refine x_iinc dX7_digest_39 rfl rfl rfl rfl ?_
      refine x_goto 20 dX7_digest_42 (by decide) ?_
      exact x_sub (x_le_s rfl (x_le_s rfl x_le_e)) (ih _ _)

theorem t_X7_digest_47 (k : xSt → Option (Int64 × xSt)) (hk : ∀ (σ : xSt), XP κl false m_X7_digest 9 shM 69 [some (.ref 0), none] [] σ (k  σ)) : ∀ (n : Nat) (w1 : Int32) (σ : xSt), XP κl false m_X7_digest 9 shM 47 [some (.ref 0), some (.int w1)] [] σ (f_X7_digest_47 k n w1 σ) := by
  intro n
  induction n with
  | zero => intro w1 σ; exact x_none
  | succ n ih =>
    intro w1 σ
    rw [f_X7_digest_47]
    refine x_iload_n dX7_digest_47 rfl rfl ?_
    refine x_bipush (v := 9) dX7_digest_48 rfl ?_
    refine x_icmp_ge 69 dX7_digest_50 (by decide) (fun _ => ?_) (fun _ => ?_)
    · exact x_sub (x_le_s rfl (x_le_n x_le_e)) (hk  _)
    · refine x_aload_n dX7_digest_53 rfl rfl ?_
      refine x_aload_n dX7_digest_54 rfl rfl ?_
      refine x_iload_n dX7_digest_55 rfl rfl ?_
      refine x_callV1i dX7_digest_56 lc_RX7_299 (c_X7_howMany _ _) rfl rfl rfl rfl rfl (fun r12 s13 => ?_)
      refine x_i2l dX7_digest_59 ?_
      refine x_callV1v dX7_digest_60 lc_RX7_308 (c_X7_mix _ _) rfl rfl rfl rfl rfl (fun r14 s15 => ?_)
      refine x_iinc dX7_digest_63 rfl rfl rfl rfl ?_
      refine x_goto 47 dX7_digest_66 (by decide) ?_
      exact x_sub (x_le_s rfl (x_le_s rfl x_le_e)) (ih _ _)

theorem c_X7_digest (σ : xSt) : CON κl yX7_digest m_X7_digest false 9 shM [.ref 0] σ (f_X7_digest σ) := by
  refine x_con (L := [some (.ref 0), none]) (by decide) rfl rfl rfl ?_
  unfold f_X7_digest
  refine x_aload_n dX7_digest_0 rfl rfl ?_
  refine x_ldc2 (v := 1489) dX7_digest_1 (xT_of 1193 (by decide +kernel) (by decide +kernel)) ?_
  refine x_putLB dX7_digest_4 lp_RX7_304 rfl rfl hu_shM (fun s1 => ?_)
  refine x_aload_n dX7_digest_7 rfl rfl ?_
  refine x_callV0i dX7_digest_8 lc_RX7_197 (c_X7_isThere _) rfl rfl rfl rfl rfl (fun r2 s3 => ?_)
  refine x_jn 18 (fun (v6 : Unit) => [some (.ref 0), none]) (fun (v6 : Unit) => []) (fun v6 s7 => ?_) (fun j8 hj8 => ?_)
  · refine x_iconst (v := 0) dX7_digest_18 rfl ?_
    refine x_istore_n dX7_digest_19 rfl rfl rfl ?_
    refine x_sub (x_le_s rfl (x_le_s rfl x_le_e)) (t_X7_digest_20 _ (fun  s11 => ?_) FU _ _)
    refine x_iconst (v := 0) dX7_digest_45 rfl ?_
    refine x_istore_n dX7_digest_46 rfl rfl rfl ?_
    refine x_sub (x_le_s rfl (x_le_s rfl x_le_e)) (t_X7_digest_47 _ (fun  s16 => ?_) FU _ _)
    refine x_aload_n dX7_digest_69 rfl rfl ?_
    refine x_getL dX7_digest_70 lk_RX7_304 rfl rfl ?_
    exact x_lret dX7_digest_73 rfl
  · refine x_if_eq 18 dX7_digest_11 (by decide) (fun _ => ?_) (fun _ => ?_)
    · exact x_sub (x_le_s rfl (x_le_n x_le_e)) (hj8 () _)
    · refine x_aload_n dX7_digest_14 rfl rfl ?_
      refine x_callV0v dX7_digest_15 lc_RX7_317 (c_X7_mixChannel _) rfl rfl rfl rfl rfl (fun r17 s18 => ?_)
      exact x_sub (x_le_s rfl (x_le_n x_le_e)) (hj8 () _)

