section
-- ===== PART A: goes FIRST, ahead of the names: the tables' words, and 'selects' of the private methods out of them =====
/-- a private method of a class that the tables say can be made, by its rows of tables_1 -/
def lw_okq (q : MethodName × Nat) : Prop := (q.1.cls ≠ "java/lang/invoke/MethodHandle" ∧ q.1.cls ≠ "java/lang/invoke/VarHandle") ∧ Cond.instantiable q.1.cls q.2 ∈ tables_1 ∧ Cond.privateMethod q.1 ∈ tables_1 ∧ Cond.instanceMethod q.1 ∈ tables_1
theorem lw_p0 : lw_okq (⟨"ChannelTracks$Text", "fitsChannel", "(II)Z"⟩, 2) := ⟨⟨by decide +kernel, by decide +kernel⟩, List.mem_of_getElem? (i := 24) (by decide +kernel), List.mem_of_getElem? (i := 212) (by decide +kernel), List.mem_of_getElem? (i := 213) (by decide +kernel)⟩
theorem lw_p1 : lw_okq (⟨"ChannelTracks$Text", "agreement", "(Ljava/lang/String;)I"⟩, 2) := ⟨⟨by decide +kernel, by decide +kernel⟩, List.mem_of_getElem? (i := 24) (by decide +kernel), List.mem_of_getElem? (i := 235) (by decide +kernel), List.mem_of_getElem? (i := 236) (by decide +kernel)⟩
theorem lw_p2 : lw_okq (⟨"ChannelTracks", "derive", "()V"⟩, 10) := ⟨⟨by decide +kernel, by decide +kernel⟩, List.mem_of_getElem? (i := 16) (by decide +kernel), List.mem_of_getElem? (i := 314) (by decide +kernel), List.mem_of_getElem? (i := 315) (by decide +kernel)⟩
theorem lw_p3 : lw_okq (⟨"ChannelTracks$Segments", "addPieces", "(II)V"⟩, 10) := ⟨⟨by decide +kernel, by decide +kernel⟩, List.mem_of_getElem? (i := 56) (by decide +kernel), List.mem_of_getElem? (i := 330) (by decide +kernel), List.mem_of_getElem? (i := 331) (by decide +kernel)⟩
theorem lw_p4 : lw_okq (⟨"ChannelTracks$Segments", "add", "(IIII)V"⟩, 10) := ⟨⟨by decide +kernel, by decide +kernel⟩, List.mem_of_getElem? (i := 56) (by decide +kernel), List.mem_of_getElem? (i := 334) (by decide +kernel), List.mem_of_getElem? (i := 335) (by decide +kernel)⟩
theorem lw_p5 : lw_okq (⟨"ChannelTracks$Segments", "constrain", "(III)V"⟩, 10) := ⟨⟨by decide +kernel, by decide +kernel⟩, List.mem_of_getElem? (i := 56) (by decide +kernel), List.mem_of_getElem? (i := 351) (by decide +kernel), List.mem_of_getElem? (i := 352) (by decide +kernel)⟩
theorem lw_p6 : lw_okq (⟨"ChannelTracks$Segments", "rank", "([I[I)I"⟩, 10) := ⟨⟨by decide +kernel, by decide +kernel⟩, List.mem_of_getElem? (i := 56) (by decide +kernel), List.mem_of_getElem? (i := 359) (by decide +kernel), List.mem_of_getElem? (i := 360) (by decide +kernel)⟩
theorem lw_p7 : lw_okq (⟨"ChannelTracks$Segments", "freeOf", "([II)I"⟩, 10) := ⟨⟨by decide +kernel, by decide +kernel⟩, List.mem_of_getElem? (i := 56) (by decide +kernel), List.mem_of_getElem? (i := 363) (by decide +kernel), List.mem_of_getElem? (i := 364) (by decide +kernel)⟩
theorem lw_p8 : lw_okq (⟨"ChannelTracks$Segments", "giveRank", "([III)V"⟩, 10) := ⟨⟨by decide +kernel, by decide +kernel⟩, List.mem_of_getElem? (i := 56) (by decide +kernel), List.mem_of_getElem? (i := 367) (by decide +kernel), List.mem_of_getElem? (i := 368) (by decide +kernel)⟩
theorem lw_p9 : lw_okq (⟨"ChannelTracks$Segments", "belowAny", "(I)I"⟩, 10) := ⟨⟨by decide +kernel, by decide +kernel⟩, List.mem_of_getElem? (i := 56) (by decide +kernel), List.mem_of_getElem? (i := 386) (by decide +kernel), List.mem_of_getElem? (i := 387) (by decide +kernel)⟩
theorem lw_p10 : lw_okq (⟨"ChannelTracks$Zones", "isNewZone", "(II)Z"⟩, 4) := ⟨⟨by decide +kernel, by decide +kernel⟩, List.mem_of_getElem? (i := 124) (by decide +kernel), List.mem_of_getElem? (i := 410) (by decide +kernel), List.mem_of_getElem? (i := 411) (by decide +kernel)⟩
theorem lw_p11 : lw_okq (⟨"ChannelTracks", "hasChannel", "()Z"⟩, 10) := ⟨⟨by decide +kernel, by decide +kernel⟩, List.mem_of_getElem? (i := 16) (by decide +kernel), List.mem_of_getElem? (i := 431) (by decide +kernel), List.mem_of_getElem? (i := 432) (by decide +kernel)⟩
theorem lw_p12 : lw_okq (⟨"ChannelTracks$Plan", "fillTrack", "(LChannelTracks$Segments;I)V"⟩, 1) := ⟨⟨by decide +kernel, by decide +kernel⟩, List.mem_of_getElem? (i := 146) (by decide +kernel), List.mem_of_getElem? (i := 440) (by decide +kernel), List.mem_of_getElem? (i := 441) (by decide +kernel)⟩
theorem lw_p13 : lw_okq (⟨"ChannelTracks$Plan", "leftmost", "(LChannelTracks$Segments;I)I"⟩, 1) := ⟨⟨by decide +kernel, by decide +kernel⟩, List.mem_of_getElem? (i := 146) (by decide +kernel), List.mem_of_getElem? (i := 444) (by decide +kernel), List.mem_of_getElem? (i := 445) (by decide +kernel)⟩
theorem lw_p14 : lw_okq (⟨"ChannelTracks$Plan", "isFree", "(LChannelTracks$Segments;II)Z"⟩, 1) := ⟨⟨by decide +kernel, by decide +kernel⟩, List.mem_of_getElem? (i := 146) (by decide +kernel), List.mem_of_getElem? (i := 448) (by decide +kernel), List.mem_of_getElem? (i := 449) (by decide +kernel)⟩
theorem lw_p15 : lw_okq (⟨"ChannelTracks$Plan", "placeFrom", "(LChannelTracks$Segments;II)Z"⟩, 1) := ⟨⟨by decide +kernel, by decide +kernel⟩, List.mem_of_getElem? (i := 146) (by decide +kernel), List.mem_of_getElem? (i := 471) (by decide +kernel), List.mem_of_getElem? (i := 472) (by decide +kernel)⟩
def lw_privs_1 : List (MethodName × Nat) := [(⟨"ChannelTracks$Text", "fitsChannel", "(II)Z"⟩, 2), (⟨"ChannelTracks$Text", "agreement", "(Ljava/lang/String;)I"⟩, 2), (⟨"ChannelTracks", "derive", "()V"⟩, 10), (⟨"ChannelTracks$Segments", "addPieces", "(II)V"⟩, 10), (⟨"ChannelTracks$Segments", "add", "(IIII)V"⟩, 10), (⟨"ChannelTracks$Segments", "constrain", "(III)V"⟩, 10), (⟨"ChannelTracks$Segments", "rank", "([I[I)I"⟩, 10), (⟨"ChannelTracks$Segments", "freeOf", "([II)I"⟩, 10), (⟨"ChannelTracks$Segments", "giveRank", "([III)V"⟩, 10), (⟨"ChannelTracks$Segments", "belowAny", "(I)I"⟩, 10), (⟨"ChannelTracks$Zones", "isNewZone", "(II)Z"⟩, 4), (⟨"ChannelTracks", "hasChannel", "()Z"⟩, 10), (⟨"ChannelTracks$Plan", "fillTrack", "(LChannelTracks$Segments;I)V"⟩, 1), (⟨"ChannelTracks$Plan", "leftmost", "(LChannelTracks$Segments;I)I"⟩, 1), (⟨"ChannelTracks$Plan", "isFree", "(LChannelTracks$Segments;II)Z"⟩, 1), (⟨"ChannelTracks$Plan", "placeFrom", "(LChannelTracks$Segments;II)Z"⟩, 1)]
theorem lw_r1 : ∀ q ∈ lw_privs_1, lw_okq q := List.forall_mem_cons.mpr ⟨lw_p0, List.forall_mem_cons.mpr ⟨lw_p1, List.forall_mem_cons.mpr ⟨lw_p2, List.forall_mem_cons.mpr ⟨lw_p3, List.forall_mem_cons.mpr ⟨lw_p4, List.forall_mem_cons.mpr ⟨lw_p5, List.forall_mem_cons.mpr ⟨lw_p6, List.forall_mem_cons.mpr ⟨lw_p7, List.forall_mem_cons.mpr ⟨lw_p8, List.forall_mem_cons.mpr ⟨lw_p9, List.forall_mem_cons.mpr ⟨lw_p10, List.forall_mem_cons.mpr ⟨lw_p11, List.forall_mem_cons.mpr ⟨lw_p12, List.forall_mem_cons.mpr ⟨lw_p13, List.forall_mem_cons.mpr ⟨lw_p14, List.forall_mem_cons.mpr ⟨lw_p15, fun _ h => absurd h List.not_mem_nil⟩⟩⟩⟩⟩⟩⟩⟩⟩⟩⟩⟩⟩⟩⟩⟩
theorem lw_p16 : lw_okq (⟨"ChannelTracks$Plan", "fitsBefore", "(LChannelTracks$Segments;I)Z"⟩, 1) := ⟨⟨by decide +kernel, by decide +kernel⟩, List.mem_of_getElem? (i := 146) (by decide +kernel), List.mem_of_getElem? (i := 475) (by decide +kernel), List.mem_of_getElem? (i := 476) (by decide +kernel)⟩
theorem lw_p17 : lw_okq (⟨"ChannelTracks", "isSplit", "(I)Z"⟩, 10) := ⟨⟨by decide +kernel, by decide +kernel⟩, List.mem_of_getElem? (i := 16) (by decide +kernel), List.mem_of_getElem? (i := 494) (by decide +kernel), List.mem_of_getElem? (i := 495) (by decide +kernel)⟩
theorem lw_p18 : lw_okq (⟨"ChannelTracks", "isColumn", "(I)Z"⟩, 10) := ⟨⟨by decide +kernel, by decide +kernel⟩, List.mem_of_getElem? (i := 16) (by decide +kernel), List.mem_of_getElem? (i := 502) (by decide +kernel), List.mem_of_getElem? (i := 503) (by decide +kernel)⟩
theorem lw_p19 : lw_okq (⟨"ChannelTracks", "breakingSet", "()I"⟩, 10) := ⟨⟨by decide +kernel, by decide +kernel⟩, List.mem_of_getElem? (i := 16) (by decide +kernel), List.mem_of_getElem? (i := 528) (by decide +kernel), List.mem_of_getElem? (i := 529) (by decide +kernel)⟩
theorem lw_p20 : lw_okq (⟨"ChannelTracks$Plan", "wireFromTop", "(LChannelTracks$Segments;III)Z"⟩, 1) := ⟨⟨by decide +kernel, by decide +kernel⟩, List.mem_of_getElem? (i := 146) (by decide +kernel), List.mem_of_getElem? (i := 554) (by decide +kernel), List.mem_of_getElem? (i := 555) (by decide +kernel)⟩
theorem lw_p21 : lw_okq (⟨"ChannelTracks$Plan", "wireFromBottom", "(LChannelTracks$Segments;III)Z"⟩, 1) := ⟨⟨by decide +kernel, by decide +kernel⟩, List.mem_of_getElem? (i := 146) (by decide +kernel), List.mem_of_getElem? (i := 559) (by decide +kernel), List.mem_of_getElem? (i := 560) (by decide +kernel)⟩
theorem lw_p22 : lw_okq (⟨"ChannelTracks", "isSegment", "(I)Z"⟩, 10) := ⟨⟨by decide +kernel, by decide +kernel⟩, List.mem_of_getElem? (i := 16) (by decide +kernel), List.mem_of_getElem? (i := 588) (by decide +kernel), List.mem_of_getElem? (i := 589) (by decide +kernel)⟩
theorem lw_p23 : lw_okq (⟨"ChannelTracks", "digestChannel", "(J)J"⟩, 10) := ⟨⟨by decide +kernel, by decide +kernel⟩, List.mem_of_getElem? (i := 16) (by decide +kernel), List.mem_of_getElem? (i := 647) (by decide +kernel), List.mem_of_getElem? (i := 648) (by decide +kernel)⟩
theorem lw_p24 : lw_okq (⟨"ChannelTracks", "digestSegments", "(J)J"⟩, 10) := ⟨⟨by decide +kernel, by decide +kernel⟩, List.mem_of_getElem? (i := 16) (by decide +kernel), List.mem_of_getElem? (i := 656) (by decide +kernel), List.mem_of_getElem? (i := 657) (by decide +kernel)⟩
theorem lw_p25 : lw_okq (⟨"ChannelTracks", "digestPlan", "(J)J"⟩, 10) := ⟨⟨by decide +kernel, by decide +kernel⟩, List.mem_of_getElem? (i := 16) (by decide +kernel), List.mem_of_getElem? (i := 663) (by decide +kernel), List.mem_of_getElem? (i := 664) (by decide +kernel)⟩
theorem lw_p26 : lw_okq (⟨"ChannelTracksModel", "readChannel", "()I"⟩, 21) := ⟨⟨by decide +kernel, by decide +kernel⟩, List.mem_of_getElem? (i := 670) (by decide +kernel), List.mem_of_getElem? (i := 755) (by decide +kernel), List.mem_of_getElem? (i := 756) (by decide +kernel)⟩
theorem lw_p27 : lw_okq (⟨"ChannelTracksModel", "pinsFrom", "(II)I"⟩, 21) := ⟨⟨by decide +kernel, by decide +kernel⟩, List.mem_of_getElem? (i := 670) (by decide +kernel), List.mem_of_getElem? (i := 759) (by decide +kernel), List.mem_of_getElem? (i := 760) (by decide +kernel)⟩
theorem lw_p28 : lw_okq (⟨"ChannelTracksModel", "readSaying", "()I"⟩, 21) := ⟨⟨by decide +kernel, by decide +kernel⟩, List.mem_of_getElem? (i := 670) (by decide +kernel), List.mem_of_getElem? (i := 766) (by decide +kernel), List.mem_of_getElem? (i := 767) (by decide +kernel)⟩
theorem lw_p29 : lw_okq (⟨"ChannelTracksModel", "likeSaying", "(I)I"⟩, 21) := ⟨⟨by decide +kernel, by decide +kernel⟩, List.mem_of_getElem? (i := 670) (by decide +kernel), List.mem_of_getElem? (i := 770) (by decide +kernel), List.mem_of_getElem? (i := 771) (by decide +kernel)⟩
theorem lw_p30 : lw_okq (⟨"ChannelTracksModel", "layNew", "()V"⟩, 21) := ⟨⟨by decide +kernel, by decide +kernel⟩, List.mem_of_getElem? (i := 670) (by decide +kernel), List.mem_of_getElem? (i := 787) (by decide +kernel), List.mem_of_getElem? (i := 788) (by decide +kernel)⟩
theorem lw_p31 : lw_okq (⟨"ChannelTracksModel", "layNow", "()V"⟩, 21) := ⟨⟨by decide +kernel, by decide +kernel⟩, List.mem_of_getElem? (i := 670) (by decide +kernel), List.mem_of_getElem? (i := 791) (by decide +kernel), List.mem_of_getElem? (i := 792) (by decide +kernel)⟩
def lw_privs_2 : List (MethodName × Nat) := [(⟨"ChannelTracks$Plan", "fitsBefore", "(LChannelTracks$Segments;I)Z"⟩, 1), (⟨"ChannelTracks", "isSplit", "(I)Z"⟩, 10), (⟨"ChannelTracks", "isColumn", "(I)Z"⟩, 10), (⟨"ChannelTracks", "breakingSet", "()I"⟩, 10), (⟨"ChannelTracks$Plan", "wireFromTop", "(LChannelTracks$Segments;III)Z"⟩, 1), (⟨"ChannelTracks$Plan", "wireFromBottom", "(LChannelTracks$Segments;III)Z"⟩, 1), (⟨"ChannelTracks", "isSegment", "(I)Z"⟩, 10), (⟨"ChannelTracks", "digestChannel", "(J)J"⟩, 10), (⟨"ChannelTracks", "digestSegments", "(J)J"⟩, 10), (⟨"ChannelTracks", "digestPlan", "(J)J"⟩, 10), (⟨"ChannelTracksModel", "readChannel", "()I"⟩, 21), (⟨"ChannelTracksModel", "pinsFrom", "(II)I"⟩, 21), (⟨"ChannelTracksModel", "readSaying", "()I"⟩, 21), (⟨"ChannelTracksModel", "likeSaying", "(I)I"⟩, 21), (⟨"ChannelTracksModel", "layNew", "()V"⟩, 21), (⟨"ChannelTracksModel", "layNow", "()V"⟩, 21)]
theorem lw_r2 : ∀ q ∈ lw_privs_2, lw_okq q := List.forall_mem_cons.mpr ⟨lw_p16, List.forall_mem_cons.mpr ⟨lw_p17, List.forall_mem_cons.mpr ⟨lw_p18, List.forall_mem_cons.mpr ⟨lw_p19, List.forall_mem_cons.mpr ⟨lw_p20, List.forall_mem_cons.mpr ⟨lw_p21, List.forall_mem_cons.mpr ⟨lw_p22, List.forall_mem_cons.mpr ⟨lw_p23, List.forall_mem_cons.mpr ⟨lw_p24, List.forall_mem_cons.mpr ⟨lw_p25, List.forall_mem_cons.mpr ⟨lw_p26, List.forall_mem_cons.mpr ⟨lw_p27, List.forall_mem_cons.mpr ⟨lw_p28, List.forall_mem_cons.mpr ⟨lw_p29, List.forall_mem_cons.mpr ⟨lw_p30, List.forall_mem_cons.mpr ⟨lw_p31, fun _ h => absurd h List.not_mem_nil⟩⟩⟩⟩⟩⟩⟩⟩⟩⟩⟩⟩⟩⟩⟩⟩
theorem lw_p32 : lw_okq (⟨"ChannelTracksModel", "laySegments", "(I)V"⟩, 21) := ⟨⟨by decide +kernel, by decide +kernel⟩, List.mem_of_getElem? (i := 670) (by decide +kernel), List.mem_of_getElem? (i := 795) (by decide +kernel), List.mem_of_getElem? (i := 796) (by decide +kernel)⟩
theorem lw_p33 : lw_okq (⟨"ChannelTracksModel", "layNet", "(IZ)V"⟩, 21) := ⟨⟨by decide +kernel, by decide +kernel⟩, List.mem_of_getElem? (i := 670) (by decide +kernel), List.mem_of_getElem? (i := 802) (by decide +kernel), List.mem_of_getElem? (i := 803) (by decide +kernel)⟩
theorem lw_p34 : lw_okq (⟨"ChannelTracksModel", "hasPin", "(II)Z"⟩, 21) := ⟨⟨by decide +kernel, by decide +kernel⟩, List.mem_of_getElem? (i := 670) (by decide +kernel), List.mem_of_getElem? (i := 806) (by decide +kernel), List.mem_of_getElem? (i := 807) (by decide +kernel)⟩
theorem lw_p35 : lw_okq (⟨"ChannelTracksModel", "top", "(I)I"⟩, 21) := ⟨⟨by decide +kernel, by decide +kernel⟩, List.mem_of_getElem? (i := 670) (by decide +kernel), List.mem_of_getElem? (i := 810) (by decide +kernel), List.mem_of_getElem? (i := 811) (by decide +kernel)⟩
theorem lw_p36 : lw_okq (⟨"ChannelTracksModel", "bottom", "(I)I"⟩, 21) := ⟨⟨by decide +kernel, by decide +kernel⟩, List.mem_of_getElem? (i := 670) (by decide +kernel), List.mem_of_getElem? (i := 814) (by decide +kernel), List.mem_of_getElem? (i := 815) (by decide +kernel)⟩
theorem lw_p37 : lw_okq (⟨"ChannelTracksModel", "addSegment", "(III)V"⟩, 21) := ⟨⟨by decide +kernel, by decide +kernel⟩, List.mem_of_getElem? (i := 670) (by decide +kernel), List.mem_of_getElem? (i := 818) (by decide +kernel), List.mem_of_getElem? (i := 819) (by decide +kernel)⟩
theorem lw_p38 : lw_okq (⟨"ChannelTracksModel", "isAbove", "(II)Z"⟩, 21) := ⟨⟨by decide +kernel, by decide +kernel⟩, List.mem_of_getElem? (i := 670) (by decide +kernel), List.mem_of_getElem? (i := 822) (by decide +kernel), List.mem_of_getElem? (i := 823) (by decide +kernel)⟩
theorem lw_p39 : lw_okq (⟨"ChannelTracksModel", "touches", "(II)Z"⟩, 21) := ⟨⟨by decide +kernel, by decide +kernel⟩, List.mem_of_getElem? (i := 670) (by decide +kernel), List.mem_of_getElem? (i := 826) (by decide +kernel), List.mem_of_getElem? (i := 827) (by decide +kernel)⟩
theorem lw_p40 : lw_okq (⟨"ChannelTracksModel", "isWithin", "(II)Z"⟩, 21) := ⟨⟨by decide +kernel, by decide +kernel⟩, List.mem_of_getElem? (i := 670) (by decide +kernel), List.mem_of_getElem? (i := 830) (by decide +kernel), List.mem_of_getElem? (i := 831) (by decide +kernel)⟩
theorem lw_p41 : lw_okq (⟨"ChannelTracksModel", "layRing", "()V"⟩, 21) := ⟨⟨by decide +kernel, by decide +kernel⟩, List.mem_of_getElem? (i := 670) (by decide +kernel), List.mem_of_getElem? (i := 834) (by decide +kernel), List.mem_of_getElem? (i := 835) (by decide +kernel)⟩
theorem lw_p42 : lw_okq (⟨"ChannelTracksModel", "isRing", "()Z"⟩, 21) := ⟨⟨by decide +kernel, by decide +kernel⟩, List.mem_of_getElem? (i := 670) (by decide +kernel), List.mem_of_getElem? (i := 838) (by decide +kernel), List.mem_of_getElem? (i := 839) (by decide +kernel)⟩
theorem lw_p43 : lw_okq (⟨"ChannelTracksModel", "findRing", "(I)Z"⟩, 21) := ⟨⟨by decide +kernel, by decide +kernel⟩, List.mem_of_getElem? (i := 670) (by decide +kernel), List.mem_of_getElem? (i := 842) (by decide +kernel), List.mem_of_getElem? (i := 843) (by decide +kernel)⟩
theorem lw_p44 : lw_okq (⟨"ChannelTracksModel", "layBack", "(II)Z"⟩, 21) := ⟨⟨by decide +kernel, by decide +kernel⟩, List.mem_of_getElem? (i := 670) (by decide +kernel), List.mem_of_getElem? (i := 846) (by decide +kernel), List.mem_of_getElem? (i := 847) (by decide +kernel)⟩
theorem lw_p45 : lw_okq (⟨"ChannelTracksModel", "sayingNow", "()I"⟩, 21) := ⟨⟨by decide +kernel, by decide +kernel⟩, List.mem_of_getElem? (i := 670) (by decide +kernel), List.mem_of_getElem? (i := 857) (by decide +kernel), List.mem_of_getElem? (i := 858) (by decide +kernel)⟩
theorem lw_p46 : lw_okq (⟨"ChannelTracksModel", "saidNow", "(I)I"⟩, 21) := ⟨⟨by decide +kernel, by decide +kernel⟩, List.mem_of_getElem? (i := 670) (by decide +kernel), List.mem_of_getElem? (i := 861) (by decide +kernel), List.mem_of_getElem? (i := 862) (by decide +kernel)⟩
theorem lw_p47 : lw_okq (⟨"ChannelTracksModel", "isThere", "()Z"⟩, 21) := ⟨⟨by decide +kernel, by decide +kernel⟩, List.mem_of_getElem? (i := 670) (by decide +kernel), List.mem_of_getElem? (i := 869) (by decide +kernel), List.mem_of_getElem? (i := 870) (by decide +kernel)⟩
def lw_privs_3 : List (MethodName × Nat) := [(⟨"ChannelTracksModel", "laySegments", "(I)V"⟩, 21), (⟨"ChannelTracksModel", "layNet", "(IZ)V"⟩, 21), (⟨"ChannelTracksModel", "hasPin", "(II)Z"⟩, 21), (⟨"ChannelTracksModel", "top", "(I)I"⟩, 21), (⟨"ChannelTracksModel", "bottom", "(I)I"⟩, 21), (⟨"ChannelTracksModel", "addSegment", "(III)V"⟩, 21), (⟨"ChannelTracksModel", "isAbove", "(II)Z"⟩, 21), (⟨"ChannelTracksModel", "touches", "(II)Z"⟩, 21), (⟨"ChannelTracksModel", "isWithin", "(II)Z"⟩, 21), (⟨"ChannelTracksModel", "layRing", "()V"⟩, 21), (⟨"ChannelTracksModel", "isRing", "()Z"⟩, 21), (⟨"ChannelTracksModel", "findRing", "(I)Z"⟩, 21), (⟨"ChannelTracksModel", "layBack", "(II)Z"⟩, 21), (⟨"ChannelTracksModel", "sayingNow", "()I"⟩, 21), (⟨"ChannelTracksModel", "saidNow", "(I)I"⟩, 21), (⟨"ChannelTracksModel", "isThere", "()Z"⟩, 21)]
theorem lw_r3 : ∀ q ∈ lw_privs_3, lw_okq q := List.forall_mem_cons.mpr ⟨lw_p32, List.forall_mem_cons.mpr ⟨lw_p33, List.forall_mem_cons.mpr ⟨lw_p34, List.forall_mem_cons.mpr ⟨lw_p35, List.forall_mem_cons.mpr ⟨lw_p36, List.forall_mem_cons.mpr ⟨lw_p37, List.forall_mem_cons.mpr ⟨lw_p38, List.forall_mem_cons.mpr ⟨lw_p39, List.forall_mem_cons.mpr ⟨lw_p40, List.forall_mem_cons.mpr ⟨lw_p41, List.forall_mem_cons.mpr ⟨lw_p42, List.forall_mem_cons.mpr ⟨lw_p43, List.forall_mem_cons.mpr ⟨lw_p44, List.forall_mem_cons.mpr ⟨lw_p45, List.forall_mem_cons.mpr ⟨lw_p46, List.forall_mem_cons.mpr ⟨lw_p47, fun _ h => absurd h List.not_mem_nil⟩⟩⟩⟩⟩⟩⟩⟩⟩⟩⟩⟩⟩⟩⟩⟩
theorem lw_p48 : lw_okq (⟨"ChannelTracksModel", "clearNow", "()I"⟩, 21) := ⟨⟨by decide +kernel, by decide +kernel⟩, List.mem_of_getElem? (i := 670) (by decide +kernel), List.mem_of_getElem? (i := 873) (by decide +kernel), List.mem_of_getElem? (i := 874) (by decide +kernel)⟩
theorem lw_p49 : lw_okq (⟨"ChannelTracksModel", "withTrack", "()I"⟩, 21) := ⟨⟨by decide +kernel, by decide +kernel⟩, List.mem_of_getElem? (i := 670) (by decide +kernel), List.mem_of_getElem? (i := 877) (by decide +kernel), List.mem_of_getElem? (i := 878) (by decide +kernel)⟩
theorem lw_p50 : lw_okq (⟨"ChannelTracksModel", "nextFor", "(I)I"⟩, 21) := ⟨⟨by decide +kernel, by decide +kernel⟩, List.mem_of_getElem? (i := 670) (by decide +kernel), List.mem_of_getElem? (i := 881) (by decide +kernel), List.mem_of_getElem? (i := 882) (by decide +kernel)⟩
theorem lw_p51 : lw_okq (⟨"ChannelTracksModel", "mayCome", "(II)Z"⟩, 21) := ⟨⟨by decide +kernel, by decide +kernel⟩, List.mem_of_getElem? (i := 670) (by decide +kernel), List.mem_of_getElem? (i := 885) (by decide +kernel), List.mem_of_getElem? (i := 886) (by decide +kernel)⟩
theorem lw_p52 : lw_okq (⟨"ChannelTracksModel", "isMet", "(II)Z"⟩, 21) := ⟨⟨by decide +kernel, by decide +kernel⟩, List.mem_of_getElem? (i := 670) (by decide +kernel), List.mem_of_getElem? (i := 889) (by decide +kernel), List.mem_of_getElem? (i := 890) (by decide +kernel)⟩
theorem lw_p53 : lw_okq (⟨"ChannelTracksModel", "depth", "()I"⟩, 21) := ⟨⟨by decide +kernel, by decide +kernel⟩, List.mem_of_getElem? (i := 670) (by decide +kernel), List.mem_of_getElem? (i := 893) (by decide +kernel), List.mem_of_getElem? (i := 894) (by decide +kernel)⟩
theorem lw_p54 : lw_okq (⟨"ChannelTracksModel", "findPlan", "(I)Z"⟩, 21) := ⟨⟨by decide +kernel, by decide +kernel⟩, List.mem_of_getElem? (i := 670) (by decide +kernel), List.mem_of_getElem? (i := 901) (by decide +kernel), List.mem_of_getElem? (i := 902) (by decide +kernel)⟩
theorem lw_p55 : lw_okq (⟨"ChannelTracksModel", "goesOn", "(I)Z"⟩, 21) := ⟨⟨by decide +kernel, by decide +kernel⟩, List.mem_of_getElem? (i := 670) (by decide +kernel), List.mem_of_getElem? (i := 905) (by decide +kernel), List.mem_of_getElem? (i := 906) (by decide +kernel)⟩
theorem lw_p56 : lw_okq (⟨"ChannelTracksModel", "isFine", "(II)Z"⟩, 21) := ⟨⟨by decide +kernel, by decide +kernel⟩, List.mem_of_getElem? (i := 670) (by decide +kernel), List.mem_of_getElem? (i := 909) (by decide +kernel), List.mem_of_getElem? (i := 910) (by decide +kernel)⟩
theorem lw_p57 : lw_okq (⟨"ChannelTracksModel", "isColumn", "(I)Z"⟩, 21) := ⟨⟨by decide +kernel, by decide +kernel⟩, List.mem_of_getElem? (i := 670) (by decide +kernel), List.mem_of_getElem? (i := 925) (by decide +kernel), List.mem_of_getElem? (i := 926) (by decide +kernel)⟩
theorem lw_p58 : lw_okq (⟨"ChannelTracksModel", "inkLength", "()I"⟩, 21) := ⟨⟨by decide +kernel, by decide +kernel⟩, List.mem_of_getElem? (i := 670) (by decide +kernel), List.mem_of_getElem? (i := 933) (by decide +kernel), List.mem_of_getElem? (i := 934) (by decide +kernel)⟩
theorem lw_p59 : lw_okq (⟨"ChannelTracksModel", "inkNow", "(I)I"⟩, 21) := ⟨⟨by decide +kernel, by decide +kernel⟩, List.mem_of_getElem? (i := 670) (by decide +kernel), List.mem_of_getElem? (i := 937) (by decide +kernel), List.mem_of_getElem? (i := 938) (by decide +kernel)⟩
theorem lw_p60 : lw_okq (⟨"ChannelTracksModel", "flat", "(II)I"⟩, 21) := ⟨⟨by decide +kernel, by decide +kernel⟩, List.mem_of_getElem? (i := 670) (by decide +kernel), List.mem_of_getElem? (i := 941) (by decide +kernel), List.mem_of_getElem? (i := 942) (by decide +kernel)⟩
theorem lw_p61 : lw_okq (⟨"ChannelTracksModel", "aboutNow", "(I)I"⟩, 21) := ⟨⟨by decide +kernel, by decide +kernel⟩, List.mem_of_getElem? (i := 670) (by decide +kernel), List.mem_of_getElem? (i := 952) (by decide +kernel), List.mem_of_getElem? (i := 953) (by decide +kernel)⟩
theorem lw_p62 : lw_okq (⟨"ChannelTracksModel", "density", "()I"⟩, 21) := ⟨⟨by decide +kernel, by decide +kernel⟩, List.mem_of_getElem? (i := 670) (by decide +kernel), List.mem_of_getElem? (i := 956) (by decide +kernel), List.mem_of_getElem? (i := 957) (by decide +kernel)⟩
theorem lw_p63 : lw_okq (⟨"ChannelTracksModel", "netsIn", "(I)I"⟩, 21) := ⟨⟨by decide +kernel, by decide +kernel⟩, List.mem_of_getElem? (i := 670) (by decide +kernel), List.mem_of_getElem? (i := 960) (by decide +kernel), List.mem_of_getElem? (i := 961) (by decide +kernel)⟩
def lw_privs_4 : List (MethodName × Nat) := [(⟨"ChannelTracksModel", "clearNow", "()I"⟩, 21), (⟨"ChannelTracksModel", "withTrack", "()I"⟩, 21), (⟨"ChannelTracksModel", "nextFor", "(I)I"⟩, 21), (⟨"ChannelTracksModel", "mayCome", "(II)Z"⟩, 21), (⟨"ChannelTracksModel", "isMet", "(II)Z"⟩, 21), (⟨"ChannelTracksModel", "depth", "()I"⟩, 21), (⟨"ChannelTracksModel", "findPlan", "(I)Z"⟩, 21), (⟨"ChannelTracksModel", "goesOn", "(I)Z"⟩, 21), (⟨"ChannelTracksModel", "isFine", "(II)Z"⟩, 21), (⟨"ChannelTracksModel", "isColumn", "(I)Z"⟩, 21), (⟨"ChannelTracksModel", "inkLength", "()I"⟩, 21), (⟨"ChannelTracksModel", "inkNow", "(I)I"⟩, 21), (⟨"ChannelTracksModel", "flat", "(II)I"⟩, 21), (⟨"ChannelTracksModel", "aboutNow", "(I)I"⟩, 21), (⟨"ChannelTracksModel", "density", "()I"⟩, 21), (⟨"ChannelTracksModel", "netsIn", "(I)I"⟩, 21)]
theorem lw_r4 : ∀ q ∈ lw_privs_4, lw_okq q := List.forall_mem_cons.mpr ⟨lw_p48, List.forall_mem_cons.mpr ⟨lw_p49, List.forall_mem_cons.mpr ⟨lw_p50, List.forall_mem_cons.mpr ⟨lw_p51, List.forall_mem_cons.mpr ⟨lw_p52, List.forall_mem_cons.mpr ⟨lw_p53, List.forall_mem_cons.mpr ⟨lw_p54, List.forall_mem_cons.mpr ⟨lw_p55, List.forall_mem_cons.mpr ⟨lw_p56, List.forall_mem_cons.mpr ⟨lw_p57, List.forall_mem_cons.mpr ⟨lw_p58, List.forall_mem_cons.mpr ⟨lw_p59, List.forall_mem_cons.mpr ⟨lw_p60, List.forall_mem_cons.mpr ⟨lw_p61, List.forall_mem_cons.mpr ⟨lw_p62, List.forall_mem_cons.mpr ⟨lw_p63, fun _ h => absurd h List.not_mem_nil⟩⟩⟩⟩⟩⟩⟩⟩⟩⟩⟩⟩⟩⟩⟩⟩
theorem lw_p64 : lw_okq (⟨"ChannelTracksModel", "chain", "()I"⟩, 21) := ⟨⟨by decide +kernel, by decide +kernel⟩, List.mem_of_getElem? (i := 670) (by decide +kernel), List.mem_of_getElem? (i := 964) (by decide +kernel), List.mem_of_getElem? (i := 965) (by decide +kernel)⟩
theorem lw_p65 : lw_okq (⟨"ChannelTracksModel", "level", "(I)I"⟩, 21) := ⟨⟨by decide +kernel, by decide +kernel⟩, List.mem_of_getElem? (i := 670) (by decide +kernel), List.mem_of_getElem? (i := 968) (by decide +kernel), List.mem_of_getElem? (i := 969) (by decide +kernel)⟩
theorem lw_p66 : lw_okq (⟨"ChannelTracksModel", "levelOf", "(I)I"⟩, 21) := ⟨⟨by decide +kernel, by decide +kernel⟩, List.mem_of_getElem? (i := 670) (by decide +kernel), List.mem_of_getElem? (i := 972) (by decide +kernel), List.mem_of_getElem? (i := 973) (by decide +kernel)⟩
theorem lw_p67 : lw_okq (⟨"ChannelTracksModel", "breakNow", "()I"⟩, 21) := ⟨⟨by decide +kernel, by decide +kernel⟩, List.mem_of_getElem? (i := 670) (by decide +kernel), List.mem_of_getElem? (i := 976) (by decide +kernel), List.mem_of_getElem? (i := 977) (by decide +kernel)⟩
theorem lw_p68 : lw_okq (⟨"ChannelTracksModel", "breakBy", "(I)I"⟩, 21) := ⟨⟨by decide +kernel, by decide +kernel⟩, List.mem_of_getElem? (i := 670) (by decide +kernel), List.mem_of_getElem? (i := 980) (by decide +kernel), List.mem_of_getElem? (i := 981) (by decide +kernel)⟩
theorem lw_p69 : lw_okq (⟨"ChannelTracksModel", "zones", "(I)I"⟩, 21) := ⟨⟨by decide +kernel, by decide +kernel⟩, List.mem_of_getElem? (i := 670) (by decide +kernel), List.mem_of_getElem? (i := 984) (by decide +kernel), List.mem_of_getElem? (i := 985) (by decide +kernel)⟩
theorem lw_p70 : lw_okq (⟨"ChannelTracksModel", "isZone", "(I)Z"⟩, 21) := ⟨⟨by decide +kernel, by decide +kernel⟩, List.mem_of_getElem? (i := 670) (by decide +kernel), List.mem_of_getElem? (i := 988) (by decide +kernel), List.mem_of_getElem? (i := 989) (by decide +kernel)⟩
theorem lw_p71 : lw_okq (⟨"ChannelTracksModel", "fits", "()Z"⟩, 21) := ⟨⟨by decide +kernel, by decide +kernel⟩, List.mem_of_getElem? (i := 670) (by decide +kernel), List.mem_of_getElem? (i := 992) (by decide +kernel), List.mem_of_getElem? (i := 993) (by decide +kernel)⟩
theorem lw_p72 : lw_okq (⟨"ChannelTracksModel", "clashes", "()I"⟩, 21) := ⟨⟨by decide +kernel, by decide +kernel⟩, List.mem_of_getElem? (i := 670) (by decide +kernel), List.mem_of_getElem? (i := 996) (by decide +kernel), List.mem_of_getElem? (i := 997) (by decide +kernel)⟩
theorem lw_p73 : lw_okq (⟨"ChannelTracksModel", "upright", "(II)I"⟩, 21) := ⟨⟨by decide +kernel, by decide +kernel⟩, List.mem_of_getElem? (i := 670) (by decide +kernel), List.mem_of_getElem? (i := 1000) (by decide +kernel), List.mem_of_getElem? (i := 1001) (by decide +kernel)⟩
theorem lw_p74 : lw_okq (⟨"ChannelTracksModel", "isNetThere", "(I)Z"⟩, 21) := ⟨⟨by decide +kernel, by decide +kernel⟩, List.mem_of_getElem? (i := 670) (by decide +kernel), List.mem_of_getElem? (i := 1012) (by decide +kernel), List.mem_of_getElem? (i := 1013) (by decide +kernel)⟩
theorem lw_p75 : lw_okq (⟨"ChannelTracksModel", "pinsOf", "(I)I"⟩, 21) := ⟨⟨by decide +kernel, by decide +kernel⟩, List.mem_of_getElem? (i := 670) (by decide +kernel), List.mem_of_getElem? (i := 1016) (by decide +kernel), List.mem_of_getElem? (i := 1017) (by decide +kernel)⟩
theorem lw_p76 : lw_okq (⟨"ChannelTracksModel", "netNow", "(II)I"⟩, 21) := ⟨⟨by decide +kernel, by decide +kernel⟩, List.mem_of_getElem? (i := 670) (by decide +kernel), List.mem_of_getElem? (i := 1020) (by decide +kernel), List.mem_of_getElem? (i := 1021) (by decide +kernel)⟩
theorem lw_p77 : lw_okq (⟨"ChannelTracksModel", "firstPin", "(I)I"⟩, 21) := ⟨⟨by decide +kernel, by decide +kernel⟩, List.mem_of_getElem? (i := 670) (by decide +kernel), List.mem_of_getElem? (i := 1024) (by decide +kernel), List.mem_of_getElem? (i := 1025) (by decide +kernel)⟩
theorem lw_p78 : lw_okq (⟨"ChannelTracksModel", "lastPin", "(I)I"⟩, 21) := ⟨⟨by decide +kernel, by decide +kernel⟩, List.mem_of_getElem? (i := 670) (by decide +kernel), List.mem_of_getElem? (i := 1028) (by decide +kernel), List.mem_of_getElem? (i := 1029) (by decide +kernel)⟩
theorem lw_p79 : lw_okq (⟨"ChannelTracksModel", "segmentsOf", "(I)I"⟩, 21) := ⟨⟨by decide +kernel, by decide +kernel⟩, List.mem_of_getElem? (i := 670) (by decide +kernel), List.mem_of_getElem? (i := 1032) (by decide +kernel), List.mem_of_getElem? (i := 1033) (by decide +kernel)⟩
def lw_privs_5 : List (MethodName × Nat) := [(⟨"ChannelTracksModel", "chain", "()I"⟩, 21), (⟨"ChannelTracksModel", "level", "(I)I"⟩, 21), (⟨"ChannelTracksModel", "levelOf", "(I)I"⟩, 21), (⟨"ChannelTracksModel", "breakNow", "()I"⟩, 21), (⟨"ChannelTracksModel", "breakBy", "(I)I"⟩, 21), (⟨"ChannelTracksModel", "zones", "(I)I"⟩, 21), (⟨"ChannelTracksModel", "isZone", "(I)Z"⟩, 21), (⟨"ChannelTracksModel", "fits", "()Z"⟩, 21), (⟨"ChannelTracksModel", "clashes", "()I"⟩, 21), (⟨"ChannelTracksModel", "upright", "(II)I"⟩, 21), (⟨"ChannelTracksModel", "isNetThere", "(I)Z"⟩, 21), (⟨"ChannelTracksModel", "pinsOf", "(I)I"⟩, 21), (⟨"ChannelTracksModel", "netNow", "(II)I"⟩, 21), (⟨"ChannelTracksModel", "firstPin", "(I)I"⟩, 21), (⟨"ChannelTracksModel", "lastPin", "(I)I"⟩, 21), (⟨"ChannelTracksModel", "segmentsOf", "(I)I"⟩, 21)]
theorem lw_r5 : ∀ q ∈ lw_privs_5, lw_okq q := List.forall_mem_cons.mpr ⟨lw_p64, List.forall_mem_cons.mpr ⟨lw_p65, List.forall_mem_cons.mpr ⟨lw_p66, List.forall_mem_cons.mpr ⟨lw_p67, List.forall_mem_cons.mpr ⟨lw_p68, List.forall_mem_cons.mpr ⟨lw_p69, List.forall_mem_cons.mpr ⟨lw_p70, List.forall_mem_cons.mpr ⟨lw_p71, List.forall_mem_cons.mpr ⟨lw_p72, List.forall_mem_cons.mpr ⟨lw_p73, List.forall_mem_cons.mpr ⟨lw_p74, List.forall_mem_cons.mpr ⟨lw_p75, List.forall_mem_cons.mpr ⟨lw_p76, List.forall_mem_cons.mpr ⟨lw_p77, List.forall_mem_cons.mpr ⟨lw_p78, List.forall_mem_cons.mpr ⟨lw_p79, fun _ h => absurd h List.not_mem_nil⟩⟩⟩⟩⟩⟩⟩⟩⟩⟩⟩⟩⟩⟩⟩⟩
theorem lw_p80 : lw_okq (⟨"ChannelTracksModel", "isSegment", "(I)Z"⟩, 21) := ⟨⟨by decide +kernel, by decide +kernel⟩, List.mem_of_getElem? (i := 670) (by decide +kernel), List.mem_of_getElem? (i := 1040) (by decide +kernel), List.mem_of_getElem? (i := 1041) (by decide +kernel)⟩
theorem lw_p81 : lw_okq (⟨"ChannelTracksModel", "segmentNow", "(II)I"⟩, 21) := ⟨⟨by decide +kernel, by decide +kernel⟩, List.mem_of_getElem? (i := 670) (by decide +kernel), List.mem_of_getElem? (i := 1044) (by decide +kernel), List.mem_of_getElem? (i := 1045) (by decide +kernel)⟩
theorem lw_p82 : lw_okq (⟨"ChannelTracksModel", "overIt", "(I)I"⟩, 21) := ⟨⟨by decide +kernel, by decide +kernel⟩, List.mem_of_getElem? (i := 670) (by decide +kernel), List.mem_of_getElem? (i := 1048) (by decide +kernel), List.mem_of_getElem? (i := 1049) (by decide +kernel)⟩
theorem lw_p83 : lw_okq (⟨"ChannelTracksModel", "isFree", "(II)Z"⟩, 21) := ⟨⟨by decide +kernel, by decide +kernel⟩, List.mem_of_getElem? (i := 670) (by decide +kernel), List.mem_of_getElem? (i := 1060) (by decide +kernel), List.mem_of_getElem? (i := 1061) (by decide +kernel)⟩
theorem lw_p84 : lw_okq (⟨"ChannelTracksModel", "howMany", "(I)I"⟩, 21) := ⟨⟨by decide +kernel, by decide +kernel⟩, List.mem_of_getElem? (i := 670) (by decide +kernel), List.mem_of_getElem? (i := 1093) (by decide +kernel), List.mem_of_getElem? (i := 1094) (by decide +kernel)⟩
theorem lw_p85 : lw_okq (⟨"ChannelTracksModel", "netsThere", "()I"⟩, 21) := ⟨⟨by decide +kernel, by decide +kernel⟩, List.mem_of_getElem? (i := 670) (by decide +kernel), List.mem_of_getElem? (i := 1097) (by decide +kernel), List.mem_of_getElem? (i := 1098) (by decide +kernel)⟩
theorem lw_p86 : lw_okq (⟨"ChannelTracksModel", "mixChannel", "()V"⟩, 21) := ⟨⟨by decide +kernel, by decide +kernel⟩, List.mem_of_getElem? (i := 670) (by decide +kernel), List.mem_of_getElem? (i := 1106) (by decide +kernel), List.mem_of_getElem? (i := 1107) (by decide +kernel)⟩
theorem lw_p87 : lw_okq (⟨"ChannelTracksModel", "mix", "(J)V"⟩, 21) := ⟨⟨by decide +kernel, by decide +kernel⟩, List.mem_of_getElem? (i := 670) (by decide +kernel), List.mem_of_getElem? (i := 1110) (by decide +kernel), List.mem_of_getElem? (i := 1111) (by decide +kernel)⟩
theorem lw_p88 : lw_okq (⟨"ChannelTracksModel", "mixSegments", "()V"⟩, 21) := ⟨⟨by decide +kernel, by decide +kernel⟩, List.mem_of_getElem? (i := 670) (by decide +kernel), List.mem_of_getElem? (i := 1115) (by decide +kernel), List.mem_of_getElem? (i := 1116) (by decide +kernel)⟩
def lw_privs_6 : List (MethodName × Nat) := [(⟨"ChannelTracksModel", "isSegment", "(I)Z"⟩, 21), (⟨"ChannelTracksModel", "segmentNow", "(II)I"⟩, 21), (⟨"ChannelTracksModel", "overIt", "(I)I"⟩, 21), (⟨"ChannelTracksModel", "isFree", "(II)Z"⟩, 21), (⟨"ChannelTracksModel", "howMany", "(I)I"⟩, 21), (⟨"ChannelTracksModel", "netsThere", "()I"⟩, 21), (⟨"ChannelTracksModel", "mixChannel", "()V"⟩, 21), (⟨"ChannelTracksModel", "mix", "(J)V"⟩, 21), (⟨"ChannelTracksModel", "mixSegments", "()V"⟩, 21)]
theorem lw_r6 : ∀ q ∈ lw_privs_6, lw_okq q := List.forall_mem_cons.mpr ⟨lw_p80, List.forall_mem_cons.mpr ⟨lw_p81, List.forall_mem_cons.mpr ⟨lw_p82, List.forall_mem_cons.mpr ⟨lw_p83, List.forall_mem_cons.mpr ⟨lw_p84, List.forall_mem_cons.mpr ⟨lw_p85, List.forall_mem_cons.mpr ⟨lw_p86, List.forall_mem_cons.mpr ⟨lw_p87, List.forall_mem_cons.mpr ⟨lw_p88, fun _ h => absurd h List.not_mem_nil⟩⟩⟩⟩⟩⟩⟩⟩⟩
def lw_privs : List (MethodName × Nat) := lw_privs_1 ++ (lw_privs_2 ++ (lw_privs_3 ++ (lw_privs_4 ++ (lw_privs_5 ++ (lw_privs_6)))))
def lw_tbl : List Cond := k2_sels lw_privs ++ tables_1
theorem lw_privs_ok : ∀ q ∈ lw_privs, lw_okq q := by
  show ∀ q ∈ lw_privs_1 ++ (lw_privs_2 ++ (lw_privs_3 ++ (lw_privs_4 ++ (lw_privs_5 ++ (lw_privs_6))))), lw_okq q
  exact List.forall_mem_append.mpr ⟨lw_r1, List.forall_mem_append.mpr ⟨lw_r2, List.forall_mem_append.mpr ⟨lw_r3, List.forall_mem_append.mpr ⟨lw_r4, List.forall_mem_append.mpr ⟨lw_r5, lw_r6⟩⟩⟩⟩⟩
end
section
def RX0 : String := "ChannelTracks$Pins"
def TX0 : u_T := fun k => match k with
  | 0 => ("ChannelTracks$Pins", "net", "[I", true)
  | _ => ("ChannelTracks$Pins", "columns", "I", false)
def tyX0 : Nat → FieldType := fun k => match k with
  | 0 => .array .int
  | _ => .int
theorem nmX0 : ∀ a, a < 2 → ∀ b, b < 2 → a ≠ b → (TX0 a).2.1 ≠ (TX0 b).2.1 := by decide +kernel
theorem tyX0_ok : ∀ k, k < 2 → parseFieldDescriptor (TX0 k).2.2.1 = some (tyX0 k) := by decide +kernel
abbrev cX0_init : ByteArray := prog_2_method_1_code
def yX0_init : MethodName := ⟨RX0, "<init>", "()V"⟩
abbrev cX0_netOf : ByteArray := prog_2_method_2_code
def yX0_netOf : MethodName := ⟨RX0, "netOf", "(II)I"⟩
abbrev cX0_change : ByteArray := prog_2_method_3_code
def yX0_change : MethodName := ⟨RX0, "change", "(III)V"⟩
abbrev cX0_columnsWith : ByteArray := prog_2_method_4_code
def yX0_columnsWith : MethodName := ⟨RX0, "columnsWith", "(I)I"⟩
abbrev cX0_pinsOf : ByteArray := prog_2_method_5_code
def yX0_pinsOf : MethodName := ⟨RX0, "pinsOf", "(I)I"⟩
abbrev cX0_pinsOfNets : ByteArray := prog_2_method_6_code
def yX0_pinsOfNets : MethodName := ⟨RX0, "pinsOfNets", "()I"⟩
abbrev cX0_nets : ByteArray := prog_2_method_7_code
def yX0_nets : MethodName := ⟨RX0, "nets", "()I"⟩
abbrev cX0_splittableNets : ByteArray := prog_2_method_8_code
def yX0_splittableNets : MethodName := ⟨RX0, "splittableNets", "()I"⟩
def RX1 : String := "ChannelTracks$Plan"
def TX1 : u_T := fun k => match k with
  | _ => ("ChannelTracks$Plan", "track", "[I", true)
def tyX1 : Nat → FieldType := fun k => match k with
  | _ => .array .int
theorem nmX1 : ∀ a, a < 1 → ∀ b, b < 1 → a ≠ b → (TX1 a).2.1 ≠ (TX1 b).2.1 := by decide +kernel
theorem tyX1_ok : ∀ k, k < 1 → parseFieldDescriptor (TX1 k).2.2.1 = some (tyX1 k) := by decide +kernel
abbrev cX1_init : ByteArray := prog_3_method_1_code
def yX1_init : MethodName := ⟨RX1, "<init>", "()V"⟩
abbrev cX1_takeAllAway : ByteArray := prog_3_method_2_code
def yX1_takeAllAway : MethodName := ⟨RX1, "takeAllAway", "()V"⟩
abbrev cX1_placed : ByteArray := prog_3_method_3_code
def yX1_placed : MethodName := ⟨RX1, "placed", "()I"⟩
abbrev cX1_depth : ByteArray := prog_3_method_4_code
def yX1_depth : MethodName := ⟨RX1, "depth", "()I"⟩
abbrev cX1_isValid : ByteArray := prog_3_method_5_code
def yX1_isValid : MethodName := ⟨RX1, "isValid", "(LChannelTracks$Segments;)Z"⟩
abbrev cX1_fitsBefore : ByteArray := prog_3_method_6_code
def yX1_fitsBefore : MethodName := ⟨RX1, "fitsBefore", "(LChannelTracks$Segments;I)Z"⟩
abbrev cX1_horizontalNets : ByteArray := prog_3_method_7_code
def yX1_horizontalNets : MethodName := ⟨RX1, "horizontalNets", "(LChannelTracks$Segments;II)I"⟩
abbrev cX1_verticalNets : ByteArray := prog_3_method_8_code
def yX1_verticalNets : MethodName := ⟨RX1, "verticalNets", "(LChannelTracks$Pins;LChannelTracks$Segments;II)I"⟩
abbrev cX1_wireFromTop : ByteArray := prog_3_method_9_code
def yX1_wireFromTop : MethodName := ⟨RX1, "wireFromTop", "(LChannelTracks$Segments;III)Z"⟩
abbrev cX1_wireFromBottom : ByteArray := prog_3_method_10_code
def yX1_wireFromBottom : MethodName := ⟨RX1, "wireFromBottom", "(LChannelTracks$Segments;III)Z"⟩
abbrev cX1_conflicts : ByteArray := prog_3_method_11_code
def yX1_conflicts : MethodName := ⟨RX1, "conflicts", "(LChannelTracks$Pins;LChannelTracks$Segments;)I"⟩
abbrev cX1_fillFromLeft : ByteArray := prog_3_method_12_code
def yX1_fillFromLeft : MethodName := ⟨RX1, "fillFromLeft", "(LChannelTracks$Segments;)V"⟩
abbrev cX1_fillTrack : ByteArray := prog_3_method_13_code
def yX1_fillTrack : MethodName := ⟨RX1, "fillTrack", "(LChannelTracks$Segments;I)V"⟩
abbrev cX1_leftmost : ByteArray := prog_3_method_14_code
def yX1_leftmost : MethodName := ⟨RX1, "leftmost", "(LChannelTracks$Segments;I)I"⟩
abbrev cX1_isFree : ByteArray := prog_3_method_15_code
def yX1_isFree : MethodName := ⟨RX1, "isFree", "(LChannelTracks$Segments;II)Z"⟩
abbrev cX1_fillBest : ByteArray := prog_3_method_16_code
def yX1_fillBest : MethodName := ⟨RX1, "fillBest", "(LChannelTracks$Segments;I)V"⟩
abbrev cX1_placeFrom : ByteArray := prog_3_method_17_code
def yX1_placeFrom : MethodName := ⟨RX1, "placeFrom", "(LChannelTracks$Segments;II)Z"⟩
def RX2 : String := "ChannelTracks$Ring"
def TX2 : u_T := fun k => match k with
  | 0 => ("ChannelTracks$Ring", "segment", "[I", true)
  | _ => ("ChannelTracks$Ring", "length", "I", false)
def tyX2 : Nat → FieldType := fun k => match k with
  | 0 => .array .int
  | _ => .int
theorem nmX2 : ∀ a, a < 2 → ∀ b, b < 2 → a ≠ b → (TX2 a).2.1 ≠ (TX2 b).2.1 := by decide +kernel
theorem tyX2_ok : ∀ k, k < 2 → parseFieldDescriptor (TX2 k).2.2.1 = some (tyX2 k) := by decide +kernel
abbrev cX2_init : ByteArray := prog_4_method_1_code
def yX2_init : MethodName := ⟨RX2, "<init>", "()V"⟩
abbrev cX2_find : ByteArray := prog_4_method_2_code
def yX2_find : MethodName := ⟨RX2, "find", "(LChannelTracks$Segments;)V"⟩
abbrev cX2_startOfShortest : ByteArray := prog_4_method_3_code
def yX2_startOfShortest : MethodName := ⟨RX2, "startOfShortest", "(LChannelTracks$Segments;)I"⟩
abbrev cX2_next : ByteArray := prog_4_method_4_code
def yX2_next : MethodName := ⟨RX2, "next", "(LChannelTracks$Segments;III)I"⟩
def RX3 : String := "ChannelTracks$Segments"
def TX3 : u_T := fun k => match k with
  | 0 => ("ChannelTracks$Segments", "net", "[I", true)
  | 1 => ("ChannelTracks$Segments", "first", "[I", true)
  | 2 => ("ChannelTracks$Segments", "last", "[I", true)
  | 3 => ("ChannelTracks$Segments", "below", "[I", true)
  | 4 => ("ChannelTracks$Segments", "over", "[I", true)
  | 5 => ("ChannelTracks$Segments", "level", "[I", true)
  | 6 => ("ChannelTracks$Segments", "height", "[I", true)
  | 7 => ("ChannelTracks$Segments", "attached", "[I", true)
  | 8 => ("ChannelTracks$Segments", "number", "I", false)
  | _ => ("ChannelTracks$Segments", "chain", "I", false)
def tyX3 : Nat → FieldType := fun k => match k with
  | 0 => .array .int
  | 1 => .array .int
  | 2 => .array .int
  | 3 => .array .int
  | 4 => .array .int
  | 5 => .array .int
  | 6 => .array .int
  | 7 => .array .int
  | 8 => .int
  | _ => .int
theorem nmX3 : ∀ a, a < 10 → ∀ b, b < 10 → a ≠ b → (TX3 a).2.1 ≠ (TX3 b).2.1 := by decide +kernel
theorem tyX3_ok : ∀ k, k < 10 → parseFieldDescriptor (TX3 k).2.2.1 = some (tyX3 k) := by decide +kernel
abbrev cX3_init : ByteArray := prog_5_method_1_code
def yX3_init : MethodName := ⟨RX3, "<init>", "()V"⟩
abbrev cX3_build : ByteArray := prog_5_method_2_code
def yX3_build : MethodName := ⟨RX3, "build", "(LChannelTracks$Pins;I)V"⟩
abbrev cX3_addPieces : ByteArray := prog_5_method_3_code
def yX3_addPieces : MethodName := ⟨RX3, "addPieces", "(II)V"⟩
abbrev cX3_add : ByteArray := prog_5_method_4_code
def yX3_add : MethodName := ⟨RX3, "add", "(IIII)V"⟩
abbrev cX3_constrain : ByteArray := prog_5_method_5_code
def yX3_constrain : MethodName := ⟨RX3, "constrain", "(III)V"⟩
abbrev cX3_isJoined : ByteArray := prog_5_method_6_code
def yX3_isJoined : MethodName := ⟨RX3, "isJoined", "(III)Z"⟩
abbrev cX3_isAbove : ByteArray := prog_5_method_7_code
def yX3_isAbove : MethodName := ⟨RX3, "isAbove", "(II)Z"⟩
abbrev cX3_covers : ByteArray := prog_5_method_8_code
def yX3_covers : MethodName := ⟨RX3, "covers", "(II)Z"⟩
abbrev cX3_overlap : ByteArray := prog_5_method_9_code
def yX3_overlap : MethodName := ⟨RX3, "overlap", "(II)Z"⟩
abbrev cX3_rank : ByteArray := prog_5_method_10_code
def yX3_rank : MethodName := ⟨RX3, "rank", "([I[I)I"⟩
abbrev cX3_freeOf : ByteArray := prog_5_method_11_code
def yX3_freeOf : MethodName := ⟨RX3, "freeOf", "([II)I"⟩
abbrev cX3_giveRank : ByteArray := prog_5_method_12_code
def yX3_giveRank : MethodName := ⟨RX3, "giveRank", "([III)V"⟩
abbrev cX3_hasCycle : ByteArray := prog_5_method_13_code
def yX3_hasCycle : MethodName := ⟨RX3, "hasCycle", "()Z"⟩
abbrev cX3_steps : ByteArray := prog_5_method_14_code
def yX3_steps : MethodName := ⟨RX3, "steps", "(II)I"⟩
abbrev cX3_belowAny : ByteArray := prog_5_method_15_code
def yX3_belowAny : MethodName := ⟨RX3, "belowAny", "(I)I"⟩
abbrev cX3_numberOf : ByteArray := prog_5_method_16_code
def yX3_numberOf : MethodName := ⟨RX3, "numberOf", "(I)I"⟩
def RX4 : String := "ChannelTracks$Text"
def TX4 : u_T := fun k => match k with
  | 0 => ("ChannelTracks$Text", "code", "[I", true)
  | _ => ("ChannelTracks$Text", "length", "I", false)
def tyX4 : Nat → FieldType := fun k => match k with
  | 0 => .array .int
  | _ => .int
theorem nmX4 : ∀ a, a < 2 → ∀ b, b < 2 → a ≠ b → (TX4 a).2.1 ≠ (TX4 b).2.1 := by decide +kernel
theorem tyX4_ok : ∀ k, k < 2 → parseFieldDescriptor (TX4 k).2.2.1 = some (tyX4 k) := by decide +kernel
abbrev cX4_init : ByteArray := prog_6_method_1_code
def yX4_init : MethodName := ⟨RX4, "<init>", "()V"⟩
abbrev cX4_append : ByteArray := prog_6_method_2_code
def yX4_append : MethodName := ⟨RX4, "append", "(I)V"⟩
abbrev cX4_lastCode : ByteArray := prog_6_method_3_code
def yX4_lastCode : MethodName := ⟨RX4, "lastCode", "()I"⟩
abbrev cX4_netAt : ByteArray := prog_6_method_4_code
def yX4_netAt : MethodName := ⟨RX4, "netAt", "(I)I"⟩
abbrev cX4_channelFault : ByteArray := prog_6_method_5_code
def yX4_channelFault : MethodName := ⟨RX4, "channelFault", "()I"⟩
abbrev cX4_fitsChannel : ByteArray := prog_6_method_6_code
def yX4_fitsChannel : MethodName := ⟨RX4, "fitsChannel", "(II)Z"⟩
abbrev cX4_isPinSign : ByteArray := prog_6_method_7_code
def yX4_isPinSign : MethodName := ⟨RX4, "isPinSign", "(I)Z"⟩
abbrev cX4_isNetSign : ByteArray := prog_6_method_8_code
def yX4_isNetSign : MethodName := ⟨RX4, "isNetSign", "(I)Z"⟩
abbrev cX4_columnsOfChannel : ByteArray := prog_6_method_9_code
def yX4_columnsOfChannel : MethodName := ⟨RX4, "columnsOfChannel", "()I"⟩
abbrev cX4_commandFault : ByteArray := prog_6_method_10_code
def yX4_commandFault : MethodName := ⟨RX4, "commandFault", "()I"⟩
abbrev cX4_command : ByteArray := prog_6_method_11_code
def yX4_command : MethodName := ⟨RX4, "command", "()I"⟩
abbrev cX4_pattern : ByteArray := prog_6_method_12_code
def yX4_pattern : MethodName := ⟨RX4, "pattern", "(I)Ljava/lang/String;"⟩
abbrev cX4_agreement : ByteArray := prog_6_method_13_code
def yX4_agreement : MethodName := ⟨RX4, "agreement", "(Ljava/lang/String;)I"⟩
abbrev cX4_agrees : ByteArray := prog_6_method_14_code
def yX4_agrees : MethodName := ⟨RX4, "agrees", "(IC)Z"⟩
def RX5 : String := "ChannelTracks$Zones"
def TX5 : u_T := fun k => match k with
  | 0 => ("ChannelTracks$Zones", "crossing", "[I", true)
  | 1 => ("ChannelTracks$Zones", "nets", "[I", true)
  | 2 => ("ChannelTracks$Zones", "number", "I", false)
  | _ => ("ChannelTracks$Zones", "density", "I", false)
def tyX5 : Nat → FieldType := fun k => match k with
  | 0 => .array .int
  | 1 => .array .int
  | 2 => .int
  | _ => .int
theorem nmX5 : ∀ a, a < 4 → ∀ b, b < 4 → a ≠ b → (TX5 a).2.1 ≠ (TX5 b).2.1 := by decide +kernel
theorem tyX5_ok : ∀ k, k < 4 → parseFieldDescriptor (TX5 k).2.2.1 = some (tyX5 k) := by decide +kernel
abbrev cX5_init : ByteArray := prog_7_method_1_code
def yX5_init : MethodName := ⟨RX5, "<init>", "()V"⟩
abbrev cX5_find : ByteArray := prog_7_method_2_code
def yX5_find : MethodName := ⟨RX5, "find", "(LChannelTracks$Segments;I)V"⟩
abbrev cX5_crossingSet : ByteArray := prog_7_method_3_code
def yX5_crossingSet : MethodName := ⟨RX5, "crossingSet", "(LChannelTracks$Segments;I)I"⟩
abbrev cX5_isNewZone : ByteArray := prog_7_method_4_code
def yX5_isNewZone : MethodName := ⟨RX5, "isNewZone", "(II)Z"⟩
def RX6 : String := "ChannelTracks"
def TX6 : u_T := fun k => match k with
  | 0 => ("ChannelTracks", "text", "LChannelTracks$Text;", true)
  | 1 => ("ChannelTracks", "pins", "LChannelTracks$Pins;", true)
  | 2 => ("ChannelTracks", "segments", "LChannelTracks$Segments;", true)
  | 3 => ("ChannelTracks", "trial", "LChannelTracks$Segments;", true)
  | 4 => ("ChannelTracks", "cycle", "LChannelTracks$Ring;", true)
  | 5 => ("ChannelTracks", "zones", "LChannelTracks$Zones;", true)
  | 6 => ("ChannelTracks", "plan", "LChannelTracks$Plan;", true)
  | 7 => ("ChannelTracks", "split", "I", false)
  | 8 => ("ChannelTracks", "timesRead", "I", false)
  | _ => ("ChannelTracks", "timesBest", "I", false)
def tyX6 : Nat → FieldType := fun k => match k with
  | 0 => .object "ChannelTracks$Text"
  | 1 => .object "ChannelTracks$Pins"
  | 2 => .object "ChannelTracks$Segments"
  | 3 => .object "ChannelTracks$Segments"
  | 4 => .object "ChannelTracks$Ring"
  | 5 => .object "ChannelTracks$Zones"
  | 6 => .object "ChannelTracks$Plan"
  | 7 => .int
  | 8 => .int
  | _ => .int
theorem nmX6 : ∀ a, a < 10 → ∀ b, b < 10 → a ≠ b → (TX6 a).2.1 ≠ (TX6 b).2.1 := by decide +kernel
theorem tyX6_ok : ∀ k, k < 10 → parseFieldDescriptor (TX6 k).2.2.1 = some (tyX6 k) := by decide +kernel
abbrev cX6_init : ByteArray := prog_1_method_1_code
def yX6_init : MethodName := ⟨RX6, "<init>", "()V"⟩
abbrev cX6_letter : ByteArray := prog_1_method_2_code
def yX6_letter : MethodName := ⟨RX6, "letter", "(I)I"⟩
abbrev cX6_blank : ByteArray := prog_1_method_3_code
def yX6_blank : MethodName := ⟨RX6, "blank", "()I"⟩
abbrev cX6_fault : ByteArray := prog_1_method_4_code
def yX6_fault : MethodName := ⟨RX6, "fault", "(I)I"⟩
abbrev cX6_channel : ByteArray := prog_1_method_5_code
def yX6_channel : MethodName := ⟨RX6, "channel", "()I"⟩
abbrev cX6_say : ByteArray := prog_1_method_6_code
def yX6_say : MethodName := ⟨RX6, "say", "()I"⟩
abbrev cX6_ink : ByteArray := prog_1_method_7_code
def yX6_ink : MethodName := ⟨RX6, "ink", "(I)I"⟩
abbrev cX6_about : ByteArray := prog_1_method_8_code
def yX6_about : MethodName := ⟨RX6, "about", "(I)I"⟩
abbrev cX6_pin : ByteArray := prog_1_method_9_code
def yX6_pin : MethodName := ⟨RX6, "pin", "(II)I"⟩
abbrev cX6_net : ByteArray := prog_1_method_10_code
def yX6_net : MethodName := ⟨RX6, "net", "(II)I"⟩
abbrev cX6_segment : ByteArray := prog_1_method_11_code
def yX6_segment : MethodName := ⟨RX6, "segment", "(II)I"⟩
abbrev cX6_above : ByteArray := prog_1_method_12_code
def yX6_above : MethodName := ⟨RX6, "above", "(II)I"⟩
abbrev cX6_may : ByteArray := prog_1_method_13_code
def yX6_may : MethodName := ⟨RX6, "may", "(II)I"⟩
abbrev cX6_ring : ByteArray := prog_1_method_14_code
def yX6_ring : MethodName := ⟨RX6, "ring", "(I)I"⟩
abbrev cX6_zone : ByteArray := prog_1_method_15_code
def yX6_zone : MethodName := ⟨RX6, "zone", "(I)I"⟩
abbrev cX6_put : ByteArray := prog_1_method_16_code
def yX6_put : MethodName := ⟨RX6, "put", "(III)I"⟩
abbrev cX6_turn : ByteArray := prog_1_method_17_code
def yX6_turn : MethodName := ⟨RX6, "turn", "(I)I"⟩
abbrev cX6_cut : ByteArray := prog_1_method_18_code
def yX6_cut : MethodName := ⟨RX6, "cut", "(IZ)I"⟩
abbrev cX6_set : ByteArray := prog_1_method_19_code
def yX6_set : MethodName := ⟨RX6, "set", "(II)I"⟩
abbrev cX6_clear : ByteArray := prog_1_method_20_code
def yX6_clear : MethodName := ⟨RX6, "clear", "()I"⟩
abbrev cX6_pack : ByteArray := prog_1_method_21_code
def yX6_pack : MethodName := ⟨RX6, "pack", "()I"⟩
abbrev cX6_best : ByteArray := prog_1_method_22_code
def yX6_best : MethodName := ⟨RX6, "best", "()I"⟩
abbrev cX6_cell : ByteArray := prog_1_method_23_code
def yX6_cell : MethodName := ⟨RX6, "cell", "(III)I"⟩
abbrev cX6_count : ByteArray := prog_1_method_24_code
def yX6_count : MethodName := ⟨RX6, "count", "(I)I"⟩
abbrev cX6_digest : ByteArray := prog_1_method_25_code
def yX6_digest : MethodName := ⟨RX6, "digest", "()J"⟩
abbrev cX6_mix : ByteArray := prog_1_method_26_code
def yX6_mix : MethodName := ⟨RX6, "mix", "(JI)J"⟩
abbrev cX6_digestChannel : ByteArray := prog_1_method_27_code
def yX6_digestChannel : MethodName := ⟨RX6, "digestChannel", "(J)J"⟩
abbrev cX6_digestSegments : ByteArray := prog_1_method_28_code
def yX6_digestSegments : MethodName := ⟨RX6, "digestSegments", "(J)J"⟩
abbrev cX6_digestPlan : ByteArray := prog_1_method_29_code
def yX6_digestPlan : MethodName := ⟨RX6, "digestPlan", "(J)J"⟩
abbrev cX6_hasChannel : ByteArray := prog_1_method_30_code
def yX6_hasChannel : MethodName := ⟨RX6, "hasChannel", "()Z"⟩
abbrev cX6_isColumn : ByteArray := prog_1_method_31_code
def yX6_isColumn : MethodName := ⟨RX6, "isColumn", "(I)Z"⟩
abbrev cX6_isSegment : ByteArray := prog_1_method_32_code
def yX6_isSegment : MethodName := ⟨RX6, "isSegment", "(I)Z"⟩
abbrev cX6_isSide : ByteArray := prog_1_method_33_code
def yX6_isSide : MethodName := ⟨RX6, "isSide", "(I)Z"⟩
abbrev cX6_isNet : ByteArray := prog_1_method_34_code
def yX6_isNet : MethodName := ⟨RX6, "isNet", "(I)Z"⟩
abbrev cX6_isSplit : ByteArray := prog_1_method_35_code
def yX6_isSplit : MethodName := ⟨RX6, "isSplit", "(I)Z"⟩
abbrev cX6_isError : ByteArray := prog_1_method_36_code
def yX6_isError : MethodName := ⟨RX6, "isError", "(I)Z"⟩
abbrev cX6_derive : ByteArray := prog_1_method_37_code
def yX6_derive : MethodName := ⟨RX6, "derive", "()V"⟩
abbrev cX6_breakingSet : ByteArray := prog_1_method_38_code
def yX6_breakingSet : MethodName := ⟨RX6, "breakingSet", "()I"⟩
abbrev cX6_inkOf : ByteArray := prog_1_method_39_code
def yX6_inkOf : MethodName := ⟨RX6, "inkOf", "(I)I"⟩
abbrev cX6_lowest : ByteArray := prog_1_method_40_code
def yX6_lowest : MethodName := ⟨RX6, "lowest", "(I)I"⟩
abbrev cX6_highest : ByteArray := prog_1_method_41_code
def yX6_highest : MethodName := ⟨RX6, "highest", "(I)I"⟩
def RX7 : String := "ChannelTracksModel"
def TX7 : u_T := fun k => match k with
  | 0 => ("ChannelTracksModel", "columns", "I", false)
  | 1 => ("ChannelTracksModel", "pins", "[I", true)
  | 2 => ("ChannelTracksModel", "cuts", "I", false)
  | 3 => ("ChannelTracksModel", "channels", "I", false)
  | 4 => ("ChannelTracksModel", "segments", "I", false)
  | 5 => ("ChannelTracksModel", "netOf", "[I", true)
  | 6 => ("ChannelTracksModel", "first", "[I", true)
  | 7 => ("ChannelTracksModel", "last", "[I", true)
  | 8 => ("ChannelTracksModel", "track", "[I", true)
  | 9 => ("ChannelTracksModel", "under", "[I", true)
  | 10 => ("ChannelTracksModel", "far", "[I", true)
  | 11 => ("ChannelTracksModel", "ringLength", "I", false)
  | 12 => ("ChannelTracksModel", "ringOf", "[I", true)
  | 13 => ("ChannelTracksModel", "bests", "I", false)
  | 14 => ("ChannelTracksModel", "pageLength", "I", false)
  | 15 => ("ChannelTracksModel", "page", "[I", true)
  | 16 => ("ChannelTracksModel", "newColumns", "I", false)
  | 17 => ("ChannelTracksModel", "isWhole", "Z", false)
  | 18 => ("ChannelTracksModel", "back", "[I", true)
  | 19 => ("ChannelTracksModel", "levels", "[I", true)
  | _ => ("ChannelTracksModel", "h", "J", false)
def tyX7 : Nat → FieldType := fun k => match k with
  | 0 => .int
  | 1 => .array .int
  | 2 => .int
  | 3 => .int
  | 4 => .int
  | 5 => .array .int
  | 6 => .array .int
  | 7 => .array .int
  | 8 => .array .int
  | 9 => .array .int
  | 10 => .array .int
  | 11 => .int
  | 12 => .array .int
  | 13 => .int
  | 14 => .int
  | 15 => .array .int
  | 16 => .int
  | 17 => .boolean
  | 18 => .array .int
  | 19 => .array .int
  | _ => .long
theorem nmX7 : ∀ a, a < 21 → ∀ b, b < 21 → a ≠ b → (TX7 a).2.1 ≠ (TX7 b).2.1 := by decide +kernel
theorem tyX7_ok : ∀ k, k < 21 → parseFieldDescriptor (TX7 k).2.2.1 = some (tyX7 k) := by decide +kernel
abbrev cX7_init : ByteArray := prog_9_method_1_code
def yX7_init : MethodName := ⟨RX7, "<init>", "()V"⟩
abbrev cX7_within : ByteArray := prog_9_method_3_code
def yX7_within : MethodName := ⟨RX7, "within", "(III)Z"⟩
abbrev cX7_isBit : ByteArray := prog_9_method_4_code
def yX7_isBit : MethodName := ⟨RX7, "isBit", "(II)Z"⟩
abbrev cX7_size : ByteArray := prog_9_method_5_code
def yX7_size : MethodName := ⟨RX7, "size", "(I)I"⟩
abbrev cX7_leastOf : ByteArray := prog_9_method_6_code
def yX7_leastOf : MethodName := ⟨RX7, "leastOf", "(I)I"⟩
abbrev cX7_letter : ByteArray := prog_9_method_7_code
def yX7_letter : MethodName := ⟨RX7, "letter", "(I)I"⟩
abbrev cX7_blank : ByteArray := prog_9_method_8_code
def yX7_blank : MethodName := ⟨RX7, "blank", "()I"⟩
abbrev cX7_isPin : ByteArray := prog_9_method_9_code
def yX7_isPin : MethodName := ⟨RX7, "isPin", "(I)Z"⟩
abbrev cX7_pinsFrom : ByteArray := prog_9_method_10_code
def yX7_pinsFrom : MethodName := ⟨RX7, "pinsFrom", "(II)I"⟩
abbrev cX7_readChannel : ByteArray := prog_9_method_11_code
def yX7_readChannel : MethodName := ⟨RX7, "readChannel", "()I"⟩
abbrev cX7_sayingAt : ByteArray := prog_9_method_12_code
def yX7_sayingAt : MethodName := ⟨RX7, "sayingAt", "(II)I"⟩
abbrev cX7_isAs : ByteArray := prog_9_method_13_code
def yX7_isAs : MethodName := ⟨RX7, "isAs", "(II)Z"⟩
abbrev cX7_likeSaying : ByteArray := prog_9_method_14_code
def yX7_likeSaying : MethodName := ⟨RX7, "likeSaying", "(I)I"⟩
abbrev cX7_readSaying : ByteArray := prog_9_method_15_code
def yX7_readSaying : MethodName := ⟨RX7, "readSaying", "()I"⟩
abbrev cX7_sayingNow : ByteArray := prog_9_method_16_code
def yX7_sayingNow : MethodName := ⟨RX7, "sayingNow", "()I"⟩
abbrev cX7_fault : ByteArray := prog_9_method_17_code
def yX7_fault : MethodName := ⟨RX7, "fault", "(I)I"⟩
abbrev cX7_netBy : ByteArray := prog_9_method_18_code
def yX7_netBy : MethodName := ⟨RX7, "netBy", "(I)I"⟩
abbrev cX7_channel : ByteArray := prog_9_method_19_code
def yX7_channel : MethodName := ⟨RX7, "channel", "()I"⟩
abbrev cX7_saidNow : ByteArray := prog_9_method_20_code
def yX7_saidNow : MethodName := ⟨RX7, "saidNow", "(I)I"⟩
abbrev cX7_say : ByteArray := prog_9_method_21_code
def yX7_say : MethodName := ⟨RX7, "say", "()I"⟩
abbrev cX7_isThere : ByteArray := prog_9_method_22_code
def yX7_isThere : MethodName := ⟨RX7, "isThere", "()Z"⟩
abbrev cX7_top : ByteArray := prog_9_method_23_code
def yX7_top : MethodName := ⟨RX7, "top", "(I)I"⟩
abbrev cX7_bottom : ByteArray := prog_9_method_24_code
def yX7_bottom : MethodName := ⟨RX7, "bottom", "(I)I"⟩
abbrev cX7_hasPin : ByteArray := prog_9_method_25_code
def yX7_hasPin : MethodName := ⟨RX7, "hasPin", "(II)Z"⟩
abbrev cX7_addSegment : ByteArray := prog_9_method_26_code
def yX7_addSegment : MethodName := ⟨RX7, "addSegment", "(III)V"⟩
abbrev cX7_layNet : ByteArray := prog_9_method_27_code
def yX7_layNet : MethodName := ⟨RX7, "layNet", "(IZ)V"⟩
abbrev cX7_isWithin : ByteArray := prog_9_method_28_code
def yX7_isWithin : MethodName := ⟨RX7, "isWithin", "(II)Z"⟩
abbrev cX7_touches : ByteArray := prog_9_method_29_code
def yX7_touches : MethodName := ⟨RX7, "touches", "(II)Z"⟩
abbrev cX7_isAbove : ByteArray := prog_9_method_30_code
def yX7_isAbove : MethodName := ⟨RX7, "isAbove", "(II)Z"⟩
abbrev cX7_isMet : ByteArray := prog_9_method_31_code
def yX7_isMet : MethodName := ⟨RX7, "isMet", "(II)Z"⟩
abbrev cX7_laySegments : ByteArray := prog_9_method_32_code
def yX7_laySegments : MethodName := ⟨RX7, "laySegments", "(I)V"⟩
abbrev cX7_isRing : ByteArray := prog_9_method_33_code
def yX7_isRing : MethodName := ⟨RX7, "isRing", "()Z"⟩
abbrev cX7_layBack : ByteArray := prog_9_method_34_code
def yX7_layBack : MethodName := ⟨RX7, "layBack", "(II)Z"⟩
abbrev cX7_findRing : ByteArray := prog_9_method_35_code
def yX7_findRing : MethodName := ⟨RX7, "findRing", "(I)Z"⟩
abbrev cX7_layRing : ByteArray := prog_9_method_36_code
def yX7_layRing : MethodName := ⟨RX7, "layRing", "()V"⟩
abbrev cX7_layNow : ByteArray := prog_9_method_37_code
def yX7_layNow : MethodName := ⟨RX7, "layNow", "()V"⟩
abbrev cX7_layNew : ByteArray := prog_9_method_38_code
def yX7_layNew : MethodName := ⟨RX7, "layNew", "()V"⟩
abbrev cX7_depth : ByteArray := prog_9_method_39_code
def yX7_depth : MethodName := ⟨RX7, "depth", "()I"⟩
abbrev cX7_isFine : ByteArray := prog_9_method_40_code
def yX7_isFine : MethodName := ⟨RX7, "isFine", "(II)Z"⟩
abbrev cX7_fits : ByteArray := prog_9_method_41_code
def yX7_fits : MethodName := ⟨RX7, "fits", "()Z"⟩
abbrev cX7_flat : ByteArray := prog_9_method_42_code
def yX7_flat : MethodName := ⟨RX7, "flat", "(II)I"⟩
abbrev cX7_upright : ByteArray := prog_9_method_43_code
def yX7_upright : MethodName := ⟨RX7, "upright", "(II)I"⟩
abbrev cX7_clashes : ByteArray := prog_9_method_44_code
def yX7_clashes : MethodName := ⟨RX7, "clashes", "()I"⟩
abbrev cX7_inkLength : ByteArray := prog_9_method_45_code
def yX7_inkLength : MethodName := ⟨RX7, "inkLength", "()I"⟩
abbrev cX7_inkNow : ByteArray := prog_9_method_46_code
def yX7_inkNow : MethodName := ⟨RX7, "inkNow", "(I)I"⟩
abbrev cX7_ink : ByteArray := prog_9_method_47_code
def yX7_ink : MethodName := ⟨RX7, "ink", "(I)I"⟩
abbrev cX7_netsIn : ByteArray := prog_9_method_48_code
def yX7_netsIn : MethodName := ⟨RX7, "netsIn", "(I)I"⟩
abbrev cX7_density : ByteArray := prog_9_method_49_code
def yX7_density : MethodName := ⟨RX7, "density", "()I"⟩
abbrev cX7_isZone : ByteArray := prog_9_method_50_code
def yX7_isZone : MethodName := ⟨RX7, "isZone", "(I)Z"⟩
abbrev cX7_zones : ByteArray := prog_9_method_51_code
def yX7_zones : MethodName := ⟨RX7, "zones", "(I)I"⟩
abbrev cX7_level : ByteArray := prog_9_method_52_code
def yX7_level : MethodName := ⟨RX7, "level", "(I)I"⟩
abbrev cX7_levelOf : ByteArray := prog_9_method_53_code
def yX7_levelOf : MethodName := ⟨RX7, "levelOf", "(I)I"⟩
abbrev cX7_chain : ByteArray := prog_9_method_54_code
def yX7_chain : MethodName := ⟨RX7, "chain", "()I"⟩
abbrev cX7_breakBy : ByteArray := prog_9_method_55_code
def yX7_breakBy : MethodName := ⟨RX7, "breakBy", "(I)I"⟩
abbrev cX7_breakNow : ByteArray := prog_9_method_56_code
def yX7_breakNow : MethodName := ⟨RX7, "breakNow", "()I"⟩
abbrev cX7_aboutNow : ByteArray := prog_9_method_57_code
def yX7_aboutNow : MethodName := ⟨RX7, "aboutNow", "(I)I"⟩
abbrev cX7_about : ByteArray := prog_9_method_58_code
def yX7_about : MethodName := ⟨RX7, "about", "(I)I"⟩
abbrev cX7_isColumn : ByteArray := prog_9_method_59_code
def yX7_isColumn : MethodName := ⟨RX7, "isColumn", "(I)Z"⟩
abbrev cX7_pin : ByteArray := prog_9_method_60_code
def yX7_pin : MethodName := ⟨RX7, "pin", "(II)I"⟩
abbrev cX7_pinsOf : ByteArray := prog_9_method_61_code
def yX7_pinsOf : MethodName := ⟨RX7, "pinsOf", "(I)I"⟩
abbrev cX7_isNetThere : ByteArray := prog_9_method_62_code
def yX7_isNetThere : MethodName := ⟨RX7, "isNetThere", "(I)Z"⟩
abbrev cX7_firstPin : ByteArray := prog_9_method_63_code
def yX7_firstPin : MethodName := ⟨RX7, "firstPin", "(I)I"⟩
abbrev cX7_lastPin : ByteArray := prog_9_method_64_code
def yX7_lastPin : MethodName := ⟨RX7, "lastPin", "(I)I"⟩
abbrev cX7_segmentsOf : ByteArray := prog_9_method_65_code
def yX7_segmentsOf : MethodName := ⟨RX7, "segmentsOf", "(I)I"⟩
abbrev cX7_netNow : ByteArray := prog_9_method_66_code
def yX7_netNow : MethodName := ⟨RX7, "netNow", "(II)I"⟩
abbrev cX7_net : ByteArray := prog_9_method_67_code
def yX7_net : MethodName := ⟨RX7, "net", "(II)I"⟩
abbrev cX7_isSegment : ByteArray := prog_9_method_68_code
def yX7_isSegment : MethodName := ⟨RX7, "isSegment", "(I)Z"⟩
abbrev cX7_overIt : ByteArray := prog_9_method_69_code
def yX7_overIt : MethodName := ⟨RX7, "overIt", "(I)I"⟩
abbrev cX7_segmentNow : ByteArray := prog_9_method_70_code
def yX7_segmentNow : MethodName := ⟨RX7, "segmentNow", "(II)I"⟩
abbrev cX7_segment : ByteArray := prog_9_method_71_code
def yX7_segment : MethodName := ⟨RX7, "segment", "(II)I"⟩
abbrev cX7_above : ByteArray := prog_9_method_72_code
def yX7_above : MethodName := ⟨RX7, "above", "(II)I"⟩
abbrev cX7_isFree : ByteArray := prog_9_method_73_code
def yX7_isFree : MethodName := ⟨RX7, "isFree", "(II)Z"⟩
abbrev cX7_may : ByteArray := prog_9_method_74_code
def yX7_may : MethodName := ⟨RX7, "may", "(II)I"⟩
abbrev cX7_ring : ByteArray := prog_9_method_75_code
def yX7_ring : MethodName := ⟨RX7, "ring", "(I)I"⟩
abbrev cX7_zone : ByteArray := prog_9_method_76_code
def yX7_zone : MethodName := ⟨RX7, "zone", "(I)I"⟩
abbrev cX7_put : ByteArray := prog_9_method_77_code
def yX7_put : MethodName := ⟨RX7, "put", "(III)I"⟩
abbrev cX7_turn : ByteArray := prog_9_method_78_code
def yX7_turn : MethodName := ⟨RX7, "turn", "(I)I"⟩
abbrev cX7_cut : ByteArray := prog_9_method_79_code
def yX7_cut : MethodName := ⟨RX7, "cut", "(IZ)I"⟩
abbrev cX7_set : ByteArray := prog_9_method_80_code
def yX7_set : MethodName := ⟨RX7, "set", "(II)I"⟩
abbrev cX7_withTrack : ByteArray := prog_9_method_81_code
def yX7_withTrack : MethodName := ⟨RX7, "withTrack", "()I"⟩
abbrev cX7_clearNow : ByteArray := prog_9_method_82_code
def yX7_clearNow : MethodName := ⟨RX7, "clearNow", "()I"⟩
abbrev cX7_clear : ByteArray := prog_9_method_83_code
def yX7_clear : MethodName := ⟨RX7, "clear", "()I"⟩
abbrev cX7_mayCome : ByteArray := prog_9_method_84_code
def yX7_mayCome : MethodName := ⟨RX7, "mayCome", "(II)Z"⟩
abbrev cX7_nextFor : ByteArray := prog_9_method_85_code
def yX7_nextFor : MethodName := ⟨RX7, "nextFor", "(I)I"⟩
abbrev cX7_pack : ByteArray := prog_9_method_86_code
def yX7_pack : MethodName := ⟨RX7, "pack", "()I"⟩
abbrev cX7_goesOn : ByteArray := prog_9_method_87_code
def yX7_goesOn : MethodName := ⟨RX7, "goesOn", "(I)Z"⟩
abbrev cX7_findPlan : ByteArray := prog_9_method_88_code
def yX7_findPlan : MethodName := ⟨RX7, "findPlan", "(I)Z"⟩
abbrev cX7_best : ByteArray := prog_9_method_89_code
def yX7_best : MethodName := ⟨RX7, "best", "()I"⟩
abbrev cX7_cell : ByteArray := prog_9_method_90_code
def yX7_cell : MethodName := ⟨RX7, "cell", "(III)I"⟩
abbrev cX7_netsThere : ByteArray := prog_9_method_91_code
def yX7_netsThere : MethodName := ⟨RX7, "netsThere", "()I"⟩
abbrev cX7_howMany : ByteArray := prog_9_method_92_code
def yX7_howMany : MethodName := ⟨RX7, "howMany", "(I)I"⟩
abbrev cX7_count : ByteArray := prog_9_method_93_code
def yX7_count : MethodName := ⟨RX7, "count", "(I)I"⟩
abbrev cX7_mix : ByteArray := prog_9_method_94_code
def yX7_mix : MethodName := ⟨RX7, "mix", "(J)V"⟩
abbrev cX7_mixSegments : ByteArray := prog_9_method_95_code
def yX7_mixSegments : MethodName := ⟨RX7, "mixSegments", "()V"⟩
abbrev cX7_mixChannel : ByteArray := prog_9_method_96_code
def yX7_mixChannel : MethodName := ⟨RX7, "mixChannel", "()V"⟩
abbrev cX7_digest : ByteArray := prog_9_method_97_code
def yX7_digest : MethodName := ⟨RX7, "digest", "()J"⟩
def RJ6 : String := "java/lang/Integer"
abbrev cJ6_bitCount_0f7a4 : ByteArray := prog_10_method_49_code
def yJ6_bitCount_0f7a4 : MethodName := ⟨RJ6, "bitCount", "(I)I"⟩
def RJ9 : String := "java/lang/Math"
abbrev cJ9_max_7cf53 : ByteArray := prog_11_method_65_code
def yJ9_max_7cf53 : MethodName := ⟨RJ9, "max", "(II)I"⟩
abbrev cJ9_min_7cf53 : ByteArray := prog_11_method_69_code
def yJ9_min_7cf53 : MethodName := ⟨RJ9, "min", "(II)I"⟩
def RJ0 : String := "java/lang/String"
abbrev cJ0_length_8abf5 : ByteArray := prog_12_method_54_code
def yJ0_length_8abf5 : MethodName := ⟨RJ0, "length", "()I"⟩
abbrev cJ0_charAt_5068e : ByteArray := prog_12_method_56_code
def yJ0_charAt_5068e : MethodName := ⟨RJ0, "charAt", "(I)C"⟩
abbrev cJ0_coder_7d493 : ByteArray := prog_12_method_152_code
def yJ0_coder_7d493 : MethodName := ⟨RJ0, "coder", "()B"⟩
abbrev cJ0_isLatin1_aae02 : ByteArray := prog_12_method_154_code
def yJ0_isLatin1_aae02 : MethodName := ⟨RJ0, "isLatin1", "()Z"⟩
abbrev cJ0_checkIndex_df160 : ByteArray := prog_12_method_155_code
def yJ0_checkIndex_df160 : MethodName := ⟨RJ0, "checkIndex", "(II)V"⟩
def RJ1 : String := "java/lang/StringLatin1"
abbrev cJ1_charAt_3b067 : ByteArray := prog_13_method_2_code
def yJ1_charAt_3b067 : MethodName := ⟨RJ1, "charAt", "([BI)C"⟩
def RJ2 : String := "java/lang/StringUTF16"
abbrev cJ2_getChar_3b067 : ByteArray := prog_14_method_5_code
def yJ2_getChar_3b067 : MethodName := ⟨RJ2, "getChar", "([BI)C"⟩
abbrev cJ2_length_9d52b : ByteArray := prog_14_method_6_code
def yJ2_length_9d52b : MethodName := ⟨RJ2, "length", "([B)I"⟩
abbrev cJ2_charAt_3b067 : ByteArray := prog_14_method_83_code
def yJ2_charAt_3b067 : MethodName := ⟨RJ2, "charAt", "([BI)C"⟩
abbrev cJ2_checkIndex_2214a : ByteArray := prog_14_method_91_code
def yJ2_checkIndex_2214a : MethodName := ⟨RJ2, "checkIndex", "(I[B)V"⟩
def RJ3 : String := "jdk/internal/util/Preconditions"
abbrev cJ3_checkIndex_8e157 : ByteArray := prog_15_method_11_code
def yJ3_checkIndex_8e157 : MethodName := ⟨RJ3, "checkIndex", "(IILjava/util/function/BiFunction;)I"⟩
def RL : String := "ChannelTracksLaw"
abbrev CL : List vw_C := [(RX0, TX0, 2), (RX1, TX1, 1), (RX2, TX2, 2), (RX3, TX3, 10), (RX4, TX4, 2), (RX5, TX5, 4), (RX6, TX6, 10), (RX7, TX7, 21)]
end
section
/-! the words that are kept over a call -/
def xT : List Cond := lw_tbl.filter goodWord
theorem xT_in {w : Cond} (h : w ∈ xT) : w ∈ lw_tbl := (List.mem_filter.mp h).1
theorem xT_of {w : Cond} (i : Nat) (h : lw_tbl[i]? = some w) (g : goodWord w = true) : w ∈ xT := List.mem_filter.mpr ⟨List.mem_of_getElem? h, g⟩
theorem xT_good {w : Cond} (h : w ∈ xT) : goodWord w = true := (List.mem_filter.mp h).2
theorem x_GoodIn {ws : List Cond} (h : ∀ w ∈ ws, w ∈ xT) : GoodIn xT ws := fun w hw => ⟨h w hw, good_of_word (xT_good (h w hw))⟩
/-! ===== the pure state: ints by cell and place, one long ===== -/
abbrev xSt : Type := (Nat → Nat → Int32) × Int64
abbrev xCl : Type := Nat ⊕ (Nat × List (Option Nat × Bool))
abbrev xSh : Type := List xCl
def up2 (σ : xSt) (c k : Nat) (v : Int32) : xSt := (fun c' => if c' = c then upd (σ.1 c) k v else σ.1 c', σ.2)
def upl (σ : xSt) (v : Int64) : xSt := (σ.1, v)
def x_fv (ad : Nat → Nat) (σ : xSt) (i k : Nat) (f : Option Nat × Bool) : Value := match f with
  | (some j, _) => .ref (ad j)
  | (none, false) => .int (σ.1 i k)
  | (none, true) => .long σ.2
def x_ce (ad : Nat → Nat) (cI : ClassId) (σ : xSt) (i : Nat) (c : xCl) : va_E := match c with
  | .inl n => .inl (cI, n, .inl (σ.1 i))
  | .inr o => .inr (o.1, o.2.mapIdx (fun k f => x_fv ad σ i k f))
def x_w (ad : Nat → Nat) (cI : ClassId) (sh : xSh) (σ : xSt) : va_W := sh.mapIdx (fun i c => (ad i, x_ce ad cI σ i c))
theorem x_w_at {ad : Nat → Nat} {cI : ClassId} {sh : xSh} {σ : xSt} {i : Nat} {c : xCl} (h : sh[i]? = some c) : (x_w ad cI sh σ)[i]? = some (ad i, x_ce ad cI σ i c) := by
  simp [x_w, h]
theorem x_w_inv {ad : Nat → Nat} {cI : ClassId} {sh : xSh} {σ : xSt} {i : Nat} {q : Nat × va_E} (h : (x_w ad cI sh σ)[i]? = some q) : ∃ c, sh[i]? = some c ∧ q = (ad i, x_ce ad cI σ i c) := by
  simp only [x_w, List.getElem?_mapIdx, Option.map_eq_some_iff] at h
  obtain ⟨c, h1, h2⟩ := h
  exact ⟨c, h1, h2.symm⟩
theorem x_D {ad : Nat → Nat} {cI : ClassId} {sh : xSh} {σ σ' : xSt} {A : Nat → Prop} (h : va_D A (x_w ad cI sh σ)) : va_D A (x_w ad cI sh σ') := by
  refine ⟨fun i j p q hp hq e => ?_, fun k q hq => ?_⟩
  · obtain ⟨c, h1, rfl⟩ := x_w_inv hp
    obtain ⟨d, h2, rfl⟩ := x_w_inv hq
    exact h.1 i j _ _ (x_w_at h1) (x_w_at h2) e
  · obtain ⟨c, h1, rfl⟩ := x_w_inv hq
    have h2 := h.2 k _ (x_w_at (ad := ad) (cI := cI) (σ := σ) h1)
    exact h2
theorem x_A {ad : Nat → Nat} {cI : ClassId} {sh : xSh} {σ σ' : xSt} {sz q : Nat} (h : va_A (x_w ad cI sh σ) sz q) : va_A (x_w ad cI sh σ') sz q := by
  rcases h with ⟨k, e, h⟩ | h
  · obtain ⟨c, h1, h2⟩ := x_w_inv h
    cases h2
    exact Or.inl ⟨k, _, x_w_at h1⟩
  · exact Or.inr h
/-- a store into a row of ints -/
theorem x_w_ast {ad : Nat → Nat} {cI : ClassId} {sh : xSh} {σ : xSt} {c n : Nat} (h : sh[c]? = some (.inl n)) (k : Nat) (v : Int32) : (x_w ad cI sh σ).set c (ad c, .inl (cI, n, .inl (upd (σ.1 c) k v))) = x_w ad cI sh (up2 σ c k v) := by
  apply List.ext_getElem?
  intro i
  by_cases hi : i = c
  · subst hi
    rw [x_w_at h]
    have hl : i < (x_w ad cI sh σ).length := by simp [x_w]; exact (List.getElem?_eq_some_iff.mp h).1
    rw [List.getElem?_set_self hl]
    simp [x_ce, up2]
  · rw [List.getElem?_set_ne (fun e => hi e.symm)]
    simp only [x_w, List.getElem?_mapIdx]
    cases hs : sh[i]? with
    | none => rfl
    | some d =>
      cases d with
      | inl n => simp [x_ce, up2, hi]
      | inr o =>
        simp only [Option.map_some, x_ce]
        have e : (fun k f => x_fv ad σ i k f) = (fun j f => x_fv ad (up2 σ c k v) i j f) := by
          funext j f
          simp only [x_fv, up2, hi, if_false]
        rw [e]
/-- a store into an int field -/
theorem x_w_fst {ad : Nat → Nat} {cI : ClassId} {sh : xSh} {σ : xSt} {c k ci : Nat} {fs : List (Option Nat × Bool)} (h : sh[c]? = some (.inr (ci, fs))) (hf : fs[k]? = some (none, false)) (v : Int32) : (x_w ad cI sh σ).set c (ad c, .inr (ci, (fs.mapIdx (fun k f => x_fv ad σ c k f)).set k (.int v))) = x_w ad cI sh (up2 σ c k v) := by
  apply List.ext_getElem?
  intro i
  by_cases hi : i = c
  · subst hi
    rw [x_w_at h]
    have hl : i < (x_w ad cI sh σ).length := by simp [x_w]; exact (List.getElem?_eq_some_iff.mp h).1
    rw [List.getElem?_set_self hl]
    simp only [x_ce]
    congr 4
    apply List.ext_getElem?
    intro j
    by_cases hj : j = k
    · subst hj
      have hl2 : j < (fs.mapIdx (fun k f => x_fv ad σ i k f)).length := by simp; exact (List.getElem?_eq_some_iff.mp hf).1
      rw [List.getElem?_set_self hl2]
      simp [hf, x_fv, up2, upd]
    · rw [List.getElem?_set_ne (fun e => hj e.symm)]
      simp only [List.getElem?_mapIdx]
      cases hs : fs[j]? with
      | none => rfl
      | some f =>
        obtain ⟨a, b⟩ := f
        cases a <;> cases b <;> simp [x_fv, up2, upd, hj]
  · rw [List.getElem?_set_ne (fun e => hi e.symm)]
    simp only [x_w, List.getElem?_mapIdx]
    cases hs : sh[i]? with
    | none => rfl
    | some d =>
      cases d with
      | inl n => simp [x_ce, up2, hi]
      | inr o =>
        simp only [Option.map_some, x_ce]
        have e : (fun k f => x_fv ad σ i k f) = (fun j f => x_fv ad (up2 σ c k v) i j f) := by
          funext j f
          simp only [x_fv, up2, hi, if_false]
        rw [e]
/-- a store into the long field -/
theorem x_w_lst {ad : Nat → Nat} {cI : ClassId} {sh : xSh} {σ : xSt} {c k ci : Nat} {fs : List (Option Nat × Bool)} (h : sh[c]? = some (.inr (ci, fs))) (hf : fs[k]? = some (none, true))
    (hu : ∀ (i ci2 : Nat) (g : List (Option Nat × Bool)) (j : Nat), sh[i]? = some (.inr (ci2, g)) → g[j]? = some (none, true) → i = c ∧ j = k) (v : Int64) : (x_w ad cI sh σ).set c (ad c, .inr (ci, (fs.mapIdx (fun k f => x_fv ad σ c k f)).set k (.long v))) = x_w ad cI sh (upl σ v) := by
  apply List.ext_getElem?
  intro i
  by_cases hi : i = c
  · subst hi
    rw [x_w_at h]
    have hl : i < (x_w ad cI sh σ).length := by simp [x_w]; exact (List.getElem?_eq_some_iff.mp h).1
    rw [List.getElem?_set_self hl]
    simp only [x_ce]
    congr 4
    apply List.ext_getElem?
    intro j
    by_cases hj : j = k
    · subst hj
      have hl2 : j < (fs.mapIdx (fun k f => x_fv ad σ i k f)).length := by simp; exact (List.getElem?_eq_some_iff.mp hf).1
      rw [List.getElem?_set_self hl2]
      simp [hf, x_fv, upl]
    · rw [List.getElem?_set_ne (fun e => hj e.symm)]
      simp only [List.getElem?_mapIdx]
      cases hs : fs[j]? with
      | none => rfl
      | some f =>
        obtain ⟨a, b⟩ := f
        cases a with
        | some a => rfl
        | none =>
          cases b with
          | false => rfl
          | true => exact absurd (hu i ci fs j h hs).2 hj
  · rw [List.getElem?_set_ne (fun e => hi e.symm)]
    simp only [x_w, List.getElem?_mapIdx]
    cases hs : sh[i]? with
    | none => rfl
    | some d =>
      cases d with
      | inl n => rfl
      | inr o =>
        simp only [Option.map_some, x_ce]
        have e : o.2.mapIdx (fun k f => x_fv ad σ i k f) = o.2.mapIdx (fun j f => x_fv ad (upl σ v) i j f) := by
          apply List.ext_getElem?
          intro j
          simp only [List.getElem?_mapIdx]
          cases hg : o.2[j]? with
          | none => rfl
          | some f =>
            obtain ⟨a, b⟩ := f
            cases a with
            | some a => rfl
            | none =>
              cases b with
              | false => rfl
              | true => exact absurd (hu i o.1 o.2 j hs hg).1 hi
        rw [e]
/-! ===== values and locals: a reference is the number of its cell ===== -/
def x_v (ad : Nat → Nat) (v : Value) : Value := match v with
  | .ref i => .ref (ad i)
  | w => w
theorem x_v_cat (ad : Nat → Nat) (v : Value) : (x_v ad v).category = v.category := by cases v <;> rfl
def x_L (ad : Nat → Nat) (nL : Nat) (L : List (Option Value)) (ls : Array Slot) : Prop := ls.size = nL ∧ lv_wf ls ∧ ∀ (i : Nat) (v : Value), L[i]? = some (some v) → ls[i]? = some (.val (x_v ad v))
def x_lv (ad : Nat → Nat) (L : List (Option Value)) : List (Nat × Value) := (List.range L.length).filterMap (fun i => (L[i]?.join).map (fun v => (i, x_v ad v)))
theorem x_lv_mem {ad : Nat → Nat} {L : List (Option Value)} {q : Nat × Value} : q ∈ x_lv ad L ↔ ∃ v, L[q.1]? = some (some v) ∧ q.2 = x_v ad v := by
  simp only [x_lv, List.mem_filterMap, List.mem_range, Option.map_eq_some_iff]
  constructor
  · rintro ⟨i, hi, v, hv, rfl⟩
    refine ⟨v, ?_, rfl⟩
    cases h : L[i]? with
    | none => rw [h] at hv; cases hv
    | some w => rw [h] at hv; exact congrArg some hv
  · rintro ⟨v, hv, h2⟩
    refine ⟨q.1, (List.getElem?_eq_some_iff.mp hv).1, v, by rw [hv]; rfl, ?_⟩
    rw [← h2]
theorem x_L.has {ad : Nat → Nat} {nL : Nat} {L : List (Option Value)} {ls : Array Slot} (h : x_L ad nL L ls) : lv_has ls nL (x_lv ad L) := by
  refine ⟨h.1, h.2.1, fun q hq => ?_⟩
  obtain ⟨v, h1, h2⟩ := x_lv_mem.mp hq
  rw [h2]
  exact h.2.2 _ _ h1
/-- no long begins just ahead of i -/
def x_nl (L : List (Option Value)) (i : Nat) : Bool := match i with
  | 0 => true
  | j + 1 => match L[j]? with
    | some (some v) => v.category == 1
    | _ => true
theorem x_L.st1 {ad : Nat → Nat} {nL i : Nat} {L : List (Option Value)} {ls' : Array Slot} {v : Value} (hn : x_nl L i = true) (h : lv_has ls' nL ((i, x_v ad v) :: (x_lv ad L).filter (fun q => !(q.1 == i) && !(q.1 + 1 == i && q.2.category == 2)))) : x_L ad nL (L.set i (some v)) ls' := by
  refine ⟨h.1, h.2.1, fun j w hj => ?_⟩
  by_cases hji : j = i
  · subst hji
    rw [List.getElem?_set_self (by
      have h1 := (List.getElem?_eq_some_iff.mp hj).1
      simpa using h1)] at hj
    cases hj
    exact h.2.2 (j, x_v ad v) (List.mem_cons_self)
  · rw [List.getElem?_set_ne (fun e => hji e.symm)] at hj
    refine h.2.2 (j, x_v ad w) (List.mem_cons_of_mem _ (List.mem_filter.mpr ⟨x_lv_mem.mpr ⟨w, hj, rfl⟩, ?_⟩))
    simp only [Bool.and_eq_true, Bool.not_eq_true', beq_eq_false_iff_ne, ne_eq, Bool.and_eq_false_iff, x_v_cat]
    refine ⟨hji, ?_⟩
    by_cases h1 : j + 1 = i
    · right
      subst h1
      simp only [x_nl, hj, beq_iff_eq] at hn
      rw [hn]; decide
    · left; exact h1
theorem x_L.st2 {ad : Nat → Nat} {nL i : Nat} {L : List (Option Value)} {ls' : Array Slot} {v : Value} (hn : x_nl L i = true) (h : lv_has ls' nL ((i, x_v ad v) :: (x_lv ad L).filter (fun q => !(q.1 == i) && (!(q.1 == i + 1) && !(q.1 + 1 == i && q.2.category == 2))))) : x_L ad nL ((L.set (i + 1) none).set i (some v)) ls' := by
  refine ⟨h.1, h.2.1, fun j w hj => ?_⟩
  by_cases hji : j = i
  · subst hji
    rw [List.getElem?_set_self (by
      have h1 := (List.getElem?_eq_some_iff.mp hj).1
      simpa using h1)] at hj
    cases hj
    exact h.2.2 (j, x_v ad v) (List.mem_cons_self)
  · rw [List.getElem?_set_ne (fun e => hji e.symm)] at hj
    by_cases hj2 : j = i + 1
    · subst hj2
      rw [List.getElem?_set_self (by
        have h1 := (List.getElem?_eq_some_iff.mp hj).1
        simpa using h1)] at hj
      cases hj
    rw [List.getElem?_set_ne (fun e => hj2 e.symm)] at hj
    refine h.2.2 (j, x_v ad w) (List.mem_cons_of_mem _ (List.mem_filter.mpr ⟨x_lv_mem.mpr ⟨w, hj, rfl⟩, ?_⟩))
    simp only [Bool.and_eq_true, Bool.not_eq_true', beq_eq_false_iff_ne, ne_eq, Bool.and_eq_false_iff, x_v_cat]
    refine ⟨hji, hj2, ?_⟩
    by_cases h1 : j + 1 = i
    · right
      subst h1
      simp only [x_nl, hj, beq_iff_eq] at hn
      rw [hn]; decide
    · left; exact h1
/-- fewer locals are known -/
def x_le : List (Option Value) → List (Option Value) → Prop
  | [], _ => True
  | _ :: _, [] => False
  | none :: a, _ :: b => x_le a b
  | some v :: a, w :: b => w = some v ∧ x_le a b
theorem x_le_at : ∀ {a b : List (Option Value)}, x_le a b → ∀ (i : Nat) (v : Value), a[i]? = some (some v) → b[i]? = some (some v)
  | [], _, _, i, v, h => by simp at h
  | _ :: _, [], hl, _, _, _ => by simp [x_le] at hl
  | none :: a, _ :: b, hl, 0, v, h => by simp at h
  | none :: a, _ :: b, hl, i + 1, v, h => by
    simp only [List.getElem?_cons_succ] at h ⊢
    exact x_le_at (a := a) (b := b) hl i v h
  | some u :: a, w :: b, hl, 0, v, h => by
    obtain ⟨rfl, _⟩ := hl
    simpa using h
  | some u :: a, w :: b, hl, i + 1, v, h => by
    simp only [List.getElem?_cons_succ] at h ⊢
    exact x_le_at hl.2 i v h
theorem x_L.le {ad : Nat → Nat} {nL : Nat} {a b : List (Option Value)} {ls : Array Slot} (h : x_L ad nL b ls) (hl : x_le a b) : x_L ad nL a ls := ⟨h.1, h.2.1, fun i v hi => h.2.2 i v (x_le_at hl i v hi)⟩
/-- the locals at a method's entry -/
def x_ent (av : List Value) : List (Option Value) := av.flatMap fun v => if v.category = 2 then [some v, none] else [some v]
theorem x_ent_args (ad : Nat → Nat) : ∀ (av : List Value) (n i : Nat) (v : Value), (x_ent av)[i]? = some (some v) → (n + i, x_v ad v) ∈ lv_args n (av.map (x_v ad))
  | [], _, i, v, h => by simp [x_ent] at h
  | w :: av, n, i, v, h => by
    simp only [List.map_cons, lv_args, x_v_cat]
    by_cases hc : w.category = 2
    · rw [if_pos hc]
      have e : x_ent (w :: av) = some w :: none :: x_ent av := by simp [x_ent, hc]
      rw [e] at h
      match i, h with
      | 0, h => simp at h; subst h; simp
      | 1, h => simp at h
      | i + 2, h =>
        simp only [List.getElem?_cons_succ] at h
        refine List.mem_cons_of_mem _ ?_
        have h2 := x_ent_args ad av (n + 2) i v h
        rwa [show n + (i + 2) = n + 2 + i by omega]
    · rw [if_neg hc]
      have e : x_ent (w :: av) = some w :: x_ent av := by simp [x_ent, hc]
      rw [e] at h
      match i, h with
      | 0, h => simp at h; subst h; simp
      | i + 1, h =>
        simp only [List.getElem?_cons_succ] at h
        refine List.mem_cons_of_mem _ ?_
        have h2 := x_ent_args ad av (n + 1) i v h
        rwa [show n + (i + 1) = n + 1 + i by omega]
/-! ===== what stands of the String constants (only where b) ===== -/
def x_E (b : Bool) (ad : Nat → Nat) (A : Nat → Prop) (U : State) (H : Heap) : Prop := b = true → (∀ k : Nat, k < 6 → vk_R RX4 ([52, 54, 56, 58, 60, 62].getD k 0) (["pack", "best", "clear", "cut ?", "whole ?", "turn #"].getD k "") (ad (100 + k)) U) ∧
  (∃ adV : Nat → Nat, vk_S 6 [4, 4, 5, 5, 7, 6] [[112, 97, 99, 107], [98, 101, 115, 116], [99, 108, 101, 97, 114], [99, 117, 116, 32, 63], [119, 104, 111, 108, 101, 32, 63], [116, 117, 114, 110, 32, 35]] (fun k => ad (100 + k)) adV A U H) ∧
  va_Z "java/lang/String" "COMPACT_STRINGS" "Z" (.int 1) A U H ∧ va_Zq "jdk/internal/util/Preconditions" "SIOOBE_FORMATTER" "Ljava/util/function/BiFunction;" A U H
end
section
/-! ===== moves of what stands of the Strings ===== -/
theorem x_E.go {b : Bool} {ad : Nat → Nat} {A B : Nat → Prop} {s U : State} {H : Heap} (h : x_E b ad A s s.heap) (hW : s.WarmedH U.vm) (hq : ∀ a : Nat, a < s.heap.size → ¬ A a → H[a]? = s.heap[a]?) (hAB : ∀ q, B q → A q) : x_E b ad B U H := by
  intro hb
  obtain ⟨h1, ⟨adV, h2⟩, h3, h4⟩ := h hb
  exact ⟨fun k hk => vk_R.warm hW (h1 k hk), ⟨adV, ((h2.kept hq).moved hW.alike).narrow hAB⟩, ((h3.kept hq).moved hW.alike).narrow hAB, ((h4.kept hq).moved hW.alike).narrow hAB⟩
theorem x_E.calling {b : Bool} {ad : Nat → Nat} {A : Nat → Prop} {U : State} {g : JFrame} {mk : MethodId} {a : Array Value} {H : Heap} (h : x_E b ad A U H) : x_E b ad A (U.calling g mk a) H := by
  intro hb
  obtain ⟨h1, ⟨adV, h2⟩, h3, h4⟩ := h hb
  exact ⟨fun k hk => vk_R.same (u := U) rfl (h1 k hk), ⟨adV, vk_S.moved (u := U) (Vm.Alike.refl U.vm) h2⟩, va_Z.moved (u := U) (Vm.Alike.refl U.vm) h3, va_Zq.moved (u := U) (Vm.Alike.refl U.vm) h4⟩
/-! ===== the judgement ===== -/
abbrev xM : Type := String × ByteArray × Nat × Option FieldType
def x_rm (h : Nat) : Room := { frames := h, cells := 0, slots := 0, locals := 64 * h }
def x_C (M : xM) (p : Program) (s : State) (m : MethodId) (args : Array Value) (meth : Method) (c : Code) : Prop :=
  p.tables.exec = Jvm.exec ∧ c.code = M.2.1 ∧ meth.sig.returnType = M.2.2.2 ∧ c.maxLocals = M.2.2.1 ∧ s.vm.findClass M.1 = some m.cls ∧ meth.locks = false ∧ ∀ w ∈ xT, w.before args s = true
def x_Q (D : va_G) (ad : Nat → Nat) (cI : ClassId) (sh : xSh) (A : Nat → Prop) (rv : Option Value) (σ' : xSt) : Array Value → State → Outcome → State → Prop := fun _ st oc t =>
  oc = .returned (rv.map (x_v ad)) ∧ va_P D CL (x_w ad cI sh σ') t.heap ∧ va_K D CL [(cI, .int)] t ∧ va_F A st t
def XP {ρ : Type} (κ : ρ → Option Value) (b : Bool) (M : xM) (h : Nat) (sh : xSh) (pc : Nat) (L : List (Option Value)) (S : List Value) (σ : xSt) (o : Option (ρ × xSt)) : Prop :=
  ∀ (r : ρ) (σ' : xSt), o = some (r, σ') →
  ∀ (p : Program) (l : Launch) (e : Env) (s : State) (m : MethodId) (args : Array Value) (below : List Frame) (meth : Method) (c : Code) (D : va_G) (ad : Nat → Nat) (cI : ClassId) (A : Nat → Prop),
    x_C M p s m args meth c → va_K D CL [(cI, .int)] s → va_D A (x_w ad cI sh σ) → (∀ q, s.heap.size ≤ q → A q) → x_E b ad A s s.heap →
    ∀ (H : Heap) (locs : List Loc) (ls : Array Slot), va_P D CL (x_w ad cI sh σ) H → va_S A s.heap H locs → x_L ad M.2.2.1 L ls →
      W p l e (x_rm h) s m args below meth c H locs 0 0 (MQ below (x_Q D ad cI sh A (κ r) σ') args s 0 0 A) (F0 m pc ls (S.map (x_v ad)))
abbrev κi (r : Int32) : Option Value := some (.int r)
abbrev κl (r : Int64) : Option Value := some (.long r)
abbrev κv (_ : Unit) : Option Value := none
abbrev κa (r : Nat) : Option Value := some (.ref r)
/-! the pure words -/
def bnd {ρ α : Type} (o : Option (ρ × xSt)) (k : ρ → xSt → Option α) : Option α := match o with
  | none => none
  | some q => k q.1 q.2
def gi {α : Type} (i : Int32) (n : Nat) (o : Option α) : Option α := if i < 0 ∨ n ≤ i.toNatClampNeg then none else o
def gz {α : Type} (y : Int32) (o : Option α) : Option α := if y = 0 then none else o
def gb {α : Type} (v : Int32) (o : Option α) : Option α := if v = 0 ∨ v = 1 then o else none
def jn {α β : Type} (k : α) (R : α → β) : β := R k
section XR
variable {ρ : Type} {κ : ρ → Option Value} {b : Bool} {M : xM} {h : Nat} {sh : xSh} {pc : Nat} {L : List (Option Value)} {S : List Value} {σ : xSt} {o o1 o2 : Option (ρ × xSt)}
theorem x_none : XP κ b M h sh pc L S σ none := by
  intro r σ' ho
  cases ho
theorem x_sub {L' : List (Option Value)} (hl : x_le L' L) (k : XP κ b M h sh pc L' S σ o) : XP κ b M h sh pc L S σ o := by
  intro r σ' ho p l e s m args below meth c D ad cI A hC hK hD hA hE H locs ls hP hS hL
  exact k r σ' ho p l e s m args below meth c D ad cI A hC hK hD hA hE H locs ls hP hS (hL.le hl)
theorem x_ite {c : Prop} [Decidable c] (k1 : c → XP κ b M h sh pc L S σ o1) (k2 : ¬ c → XP κ b M h sh pc L S σ o2) : XP κ b M h sh pc L S σ (if c then o1 else o2) := by
  by_cases hc : c
  · rw [if_pos hc]; exact k1 hc
  · rw [if_neg hc]; exact k2 hc
theorem x_jn {α : Type} {k : α → xSt → Option (ρ × xSt)} {R : (α → xSt → Option (ρ × xSt)) → Option (ρ × xSt)} (pcJ : Nat) (LJ : α → List (Option Value)) (SJ : α → List Value)
    (hJ : ∀ (v : α) (σ' : xSt), XP κ b M h sh pcJ (LJ v) (SJ v) σ' (k v σ')) (hR : ∀ k' : α → xSt → Option (ρ × xSt), (∀ (v : α) (σ' : xSt), XP κ b M h sh pcJ (LJ v) (SJ v) σ' (k' v σ')) → XP κ b M h sh pc L S σ (R k')) : XP κ b M h sh pc L S σ (jn k R) := hR k hJ
theorem x_bj {α : Type} {k : α → xSt → Option (ρ × xSt)} {R : Option (α × xSt)} (pcJ : Nat) (LJ : α → List (Option Value)) (SJ : α → List Value)
    (hJ : ∀ (v : α) (σ' : xSt), XP κ b M h sh pcJ (LJ v) (SJ v) σ' (k v σ')) (hR : ∀ k' : α → xSt → Option (ρ × xSt), (∀ (v : α) (σ' : xSt), XP κ b M h sh pcJ (LJ v) (SJ v) σ' (k' v σ')) → XP κ b M h sh pc L S σ (bnd R k')) : XP κ b M h sh pc L S σ (bnd R k) := hR k hJ
/-! plain instructions -/
theorem x_iconst {n : Int} {v : Int32} (hd : decode M.2.1 pc = .ok (.iconst n, 1)) (hv : Int32.ofInt n = v) (k : XP κ b M h sh (pc + 1) L (.int v :: S) σ o) : XP κ b M h sh pc L S σ o := by
  intro r σ' ho p l e s m args below meth c D ad cI A hC hK hD hA hE H locs ls hP hS hL
  exact lv_iconst hC.1 hC.2.1 hd hv (k r σ' ho p l e s m args below meth c D ad cI A hC hK hD hA hE H locs ls hP hS hL)
theorem x_bipush {n : Int} {v : Int32} (hd : decode M.2.1 pc = .ok (.bipush n, 2)) (hv : (Int8.ofInt n).toInt32 = v) (k : XP κ b M h sh (pc + 2) L (.int v :: S) σ o) : XP κ b M h sh pc L S σ o := by
  intro r σ' ho p l e s m args below meth c D ad cI A hC hK hD hA hE H locs ls hP hS hL
  exact lv_bipush hC.1 hC.2.1 hd hv (k r σ' ho p l e s m args below meth c D ad cI A hC hK hD hA hE H locs ls hP hS hL)
theorem x_sipush {n : Int} {v : Int32} (hd : decode M.2.1 pc = .ok (.sipush n, 3)) (hv : (Int16.ofInt n).toInt32 = v) (k : XP κ b M h sh (pc + 3) L (.int v :: S) σ o) : XP κ b M h sh pc L S σ o := by
  intro r σ' ho p l e s m args below meth c D ad cI A hC hK hD hA hE H locs ls hP hS hL
  exact lv_sipush hC.1 hC.2.1 hd hv (k r σ' ho p l e s m args below meth c D ad cI A hC hK hD hA hE H locs ls hP hS hL)
theorem x_ldc {index : Nat} {v : Int32} (hd : decode M.2.1 pc = .ok (.ldc index, 2)) (hw : Cond.constant M.1 index v ∈ xT) (k : XP κ b M h sh (pc + 2) L (.int v :: S) σ o) : XP κ b M h sh pc L S σ o := by
  intro r σ' ho p l e s m args below meth c D ad cI A hC hK hD hA hE H locs ls hP hS hL
  exact lv_ldc hC.1 hC.2.1 hC.2.2.2.2.1 (hC.2.2.2.2.2.2 _ hw) hd (k r σ' ho p l e s m args below meth c D ad cI A hC hK hD hA hE H locs ls hP hS hL)
theorem x_ldc2 {index : Nat} {v : Int64} (hd : decode M.2.1 pc = .ok (.ldc2_w index, 3)) (hw : Cond.constantLong M.1 index v ∈ xT) (k : XP κ b M h sh (pc + 3) L (.long v :: S) σ o) : XP κ b M h sh pc L S σ o := by
  intro r σ' ho p l e s m args below meth c D ad cI A hC hK hD hA hE H locs ls hP hS hL
  exact lv_ldc2 hC.1 hC.2.1 hC.2.2.2.2.1 (hC.2.2.2.2.2.2 _ hw) hd (k r σ' ho p l e s m args below meth c D ad cI A hC hK hD hA hE H locs ls hP hS hL)
theorem x_iload_n {n : Fin 4} {i : Nat} {x : Int32} (hd : decode M.2.1 pc = .ok (.iload_n n, 1)) (hi : (n : Nat) = i) (hl : L[i]? = some (some (.int x))) (k : XP κ b M h sh (pc + 1) L (.int x :: S) σ o) : XP κ b M h sh pc L S σ o := by
  intro r σ' ho p l e s m args below meth c D ad cI A hC hK hD hA hE H locs ls hP hS hL
  exact lv_iload_n hC.1 hC.2.1 hd hi (hL.2.2 _ _ hl) (k r σ' ho p l e s m args below meth c D ad cI A hC hK hD hA hE H locs ls hP hS hL)
theorem x_iload {i : Nat} {x : Int32} (hd : decode M.2.1 pc = .ok (.iload i, 2)) (hl : L[i]? = some (some (.int x))) (k : XP κ b M h sh (pc + 2) L (.int x :: S) σ o) : XP κ b M h sh pc L S σ o := by
  intro r σ' ho p l e s m args below meth c D ad cI A hC hK hD hA hE H locs ls hP hS hL
  exact lv_iload hC.1 hC.2.1 hd (hL.2.2 _ _ hl) (k r σ' ho p l e s m args below meth c D ad cI A hC hK hD hA hE H locs ls hP hS hL)
theorem x_lload_n {n : Fin 4} {i : Nat} {x : Int64} (hd : decode M.2.1 pc = .ok (.lload_n n, 1)) (hi : (n : Nat) = i) (hl : L[i]? = some (some (.long x))) (k : XP κ b M h sh (pc + 1) L (.long x :: S) σ o) : XP κ b M h sh pc L S σ o := by
  intro r σ' ho p l e s m args below meth c D ad cI A hC hK hD hA hE H locs ls hP hS hL
  exact lv_lload_n hC.1 hC.2.1 hd hi (hL.2.2 _ _ hl) (k r σ' ho p l e s m args below meth c D ad cI A hC hK hD hA hE H locs ls hP hS hL)
theorem x_lload {i : Nat} {x : Int64} (hd : decode M.2.1 pc = .ok (.lload i, 2)) (hl : L[i]? = some (some (.long x))) (k : XP κ b M h sh (pc + 2) L (.long x :: S) σ o) : XP κ b M h sh pc L S σ o := by
  intro r σ' ho p l e s m args below meth c D ad cI A hC hK hD hA hE H locs ls hP hS hL
  exact lv_lload hC.1 hC.2.1 hd (hL.2.2 _ _ hl) (k r σ' ho p l e s m args below meth c D ad cI A hC hK hD hA hE H locs ls hP hS hL)
theorem x_aload_n {n : Fin 4} {i : Nat} {x : Nat} (hd : decode M.2.1 pc = .ok (.aload_n n, 1)) (hi : (n : Nat) = i) (hl : L[i]? = some (some (.ref x))) (k : XP κ b M h sh (pc + 1) L (.ref x :: S) σ o) : XP κ b M h sh pc L S σ o := by
  intro r σ' ho p l e s m args below meth c D ad cI A hC hK hD hA hE H locs ls hP hS hL
  exact lv_aload_n hC.1 hC.2.1 hd hi (hL.2.2 _ _ hl) (k r σ' ho p l e s m args below meth c D ad cI A hC hK hD hA hE H locs ls hP hS hL)
theorem x_aload {i : Nat} {x : Nat} (hd : decode M.2.1 pc = .ok (.aload i, 2)) (hl : L[i]? = some (some (.ref x))) (k : XP κ b M h sh (pc + 2) L (.ref x :: S) σ o) : XP κ b M h sh pc L S σ o := by
  intro r σ' ho p l e s m args below meth c D ad cI A hC hK hD hA hE H locs ls hP hS hL
  exact lv_aload hC.1 hC.2.1 hd (hL.2.2 _ _ hl) (k r σ' ho p l e s m args below meth c D ad cI A hC hK hD hA hE H locs ls hP hS hL)
theorem x_istore_n {n : Fin 4} {i : Nat} {x : Int32} (hd : decode M.2.1 pc = .ok (.istore_n n, 1)) (hi : (n : Nat) = i) (hn : Nat.ble (i + 1) M.2.2.1 = true) (hq : x_nl L i = true) (k : XP κ b M h sh (pc + 1) (L.set i (some (.int x))) S σ o) : XP κ b M h sh pc L (.int x :: S) σ o := by
  intro r σ' ho p l e s m args below meth c D ad cI A hC hK hD hA hE H locs ls hP hS hL
  exact lv_istore_n hC.1 hC.2.1 hd hi hL.has (Nat.le_of_ble_eq_true hn) rfl (fun ls' hl => k r σ' ho p l e s m args below meth c D ad cI A hC hK hD hA hE H locs ls' hP hS (x_L.st1 (v := .int x) hq hl))
theorem x_istore {i : Nat} {x : Int32} (hd : decode M.2.1 pc = .ok (.istore i, 2)) (hn : Nat.ble (i + 1) M.2.2.1 = true) (hq : x_nl L i = true) (k : XP κ b M h sh (pc + 2) (L.set i (some (.int x))) S σ o) : XP κ b M h sh pc L (.int x :: S) σ o := by
  intro r σ' ho p l e s m args below meth c D ad cI A hC hK hD hA hE H locs ls hP hS hL
  exact lv_istore hC.1 hC.2.1 hd hL.has (Nat.le_of_ble_eq_true hn) rfl (fun ls' hl => k r σ' ho p l e s m args below meth c D ad cI A hC hK hD hA hE H locs ls' hP hS (x_L.st1 (v := .int x) hq hl))
theorem x_astore_n {n : Fin 4} {i : Nat} {x : Nat} (hd : decode M.2.1 pc = .ok (.astore_n n, 1)) (hi : (n : Nat) = i) (hn : Nat.ble (i + 1) M.2.2.1 = true) (hq : x_nl L i = true) (k : XP κ b M h sh (pc + 1) (L.set i (some (.ref x))) S σ o) : XP κ b M h sh pc L (.ref x :: S) σ o := by
  intro r σ' ho p l e s m args below meth c D ad cI A hC hK hD hA hE H locs ls hP hS hL
  exact lv_astore_n hC.1 hC.2.1 hd hi hL.has (Nat.le_of_ble_eq_true hn) rfl (fun ls' hl => k r σ' ho p l e s m args below meth c D ad cI A hC hK hD hA hE H locs ls' hP hS (x_L.st1 (v := .ref x) hq hl))
theorem x_astore {i : Nat} {x : Nat} (hd : decode M.2.1 pc = .ok (.astore i, 2)) (hn : Nat.ble (i + 1) M.2.2.1 = true) (hq : x_nl L i = true) (k : XP κ b M h sh (pc + 2) (L.set i (some (.ref x))) S σ o) : XP κ b M h sh pc L (.ref x :: S) σ o := by
  intro r σ' ho p l e s m args below meth c D ad cI A hC hK hD hA hE H locs ls hP hS hL
  exact lv_astore hC.1 hC.2.1 hd hL.has (Nat.le_of_ble_eq_true hn) rfl (fun ls' hl => k r σ' ho p l e s m args below meth c D ad cI A hC hK hD hA hE H locs ls' hP hS (x_L.st1 (v := .ref x) hq hl))
theorem x_lstore_n {n : Fin 4} {i : Nat} {x : Int64} (hd : decode M.2.1 pc = .ok (.lstore_n n, 1)) (hi : (n : Nat) = i) (hn : Nat.ble (i + 1 + 1) M.2.2.1 = true) (hq : x_nl L i = true) (k : XP κ b M h sh (pc + 1) ((L.set (i + 1) none).set i (some (.long x))) S σ o) : XP κ b M h sh pc L (.long x :: S) σ o := by
  intro r σ' ho p l e s m args below meth c D ad cI A hC hK hD hA hE H locs ls hP hS hL
  exact lv_lstore_n hC.1 hC.2.1 hd hi hL.has (Nat.le_of_ble_eq_true hn) rfl (fun ls' hl => k r σ' ho p l e s m args below meth c D ad cI A hC hK hD hA hE H locs ls' hP hS (x_L.st2 (v := .long x) hq hl))
theorem x_lstore {i : Nat} {x : Int64} (hd : decode M.2.1 pc = .ok (.lstore i, 2)) (hn : Nat.ble (i + 1 + 1) M.2.2.1 = true) (hq : x_nl L i = true) (k : XP κ b M h sh (pc + 2) ((L.set (i + 1) none).set i (some (.long x))) S σ o) : XP κ b M h sh pc L (.long x :: S) σ o := by
  intro r σ' ho p l e s m args below meth c D ad cI A hC hK hD hA hE H locs ls hP hS hL
  exact lv_lstore hC.1 hC.2.1 hd hL.has (Nat.le_of_ble_eq_true hn) rfl (fun ls' hl => k r σ' ho p l e s m args below meth c D ad cI A hC hK hD hA hE H locs ls' hP hS (x_L.st2 (v := .long x) hq hl))
theorem x_iinc {i : Nat} {n : Int} {x v : Int32} (hd : decode M.2.1 pc = .ok (.iinc i n, 3)) (hl : L[i]? = some (some (.int x))) (hv : x + Int32.ofInt n = v) (hn : Nat.ble (i + 1) M.2.2.1 = true) (hq : x_nl L i = true) (k : XP κ b M h sh (pc + 3) (L.set i (some (.int v))) S σ o) : XP κ b M h sh pc L S σ o := by
  intro r σ' ho p l e s m args below meth c D ad cI A hC hK hD hA hE H locs ls hP hS hL
  obtain ⟨j, hj⟩ := List.mem_iff_getElem?.mp (x_lv_mem (ad := ad) (q := (i, .int x)).mpr ⟨_, hl, rfl⟩)
  exact lv_iinc hC.1 hC.2.1 hd hL.has hj hv (Nat.le_of_ble_eq_true hn) rfl (fun ls' hl => k r σ' ho p l e s m args below meth c D ad cI A hC hK hD hA hE H locs ls' hP hS (x_L.st1 (v := .int v) hq hl))
theorem x_iadd {x y : Int32} (hd : decode M.2.1 pc = .ok (.iadd, 1)) (k : XP κ b M h sh (pc + 1) L (.int (x + y) :: S) σ o) : XP κ b M h sh pc L (.int y :: .int x :: S) σ o := by
  intro r σ' ho p l e s m args below meth c D ad cI A hC hK hD hA hE H locs ls hP hS hL
  exact lv_iadd hC.1 hC.2.1 hd (k r σ' ho p l e s m args below meth c D ad cI A hC hK hD hA hE H locs ls hP hS hL)
theorem x_isub {x y : Int32} (hd : decode M.2.1 pc = .ok (.isub, 1)) (k : XP κ b M h sh (pc + 1) L (.int (x - y) :: S) σ o) : XP κ b M h sh pc L (.int y :: .int x :: S) σ o := by
  intro r σ' ho p l e s m args below meth c D ad cI A hC hK hD hA hE H locs ls hP hS hL
  exact lv_isub hC.1 hC.2.1 hd (k r σ' ho p l e s m args below meth c D ad cI A hC hK hD hA hE H locs ls hP hS hL)
theorem x_imul {x y : Int32} (hd : decode M.2.1 pc = .ok (.imul, 1)) (k : XP κ b M h sh (pc + 1) L (.int (x * y) :: S) σ o) : XP κ b M h sh pc L (.int y :: .int x :: S) σ o := by
  intro r σ' ho p l e s m args below meth c D ad cI A hC hK hD hA hE H locs ls hP hS hL
  exact lv_imul hC.1 hC.2.1 hd (k r σ' ho p l e s m args below meth c D ad cI A hC hK hD hA hE H locs ls hP hS hL)
theorem x_iand {x y : Int32} (hd : decode M.2.1 pc = .ok (.iand, 1)) (k : XP κ b M h sh (pc + 1) L (.int (x &&& y) :: S) σ o) : XP κ b M h sh pc L (.int y :: .int x :: S) σ o := by
  intro r σ' ho p l e s m args below meth c D ad cI A hC hK hD hA hE H locs ls hP hS hL
  exact lv_iand hC.1 hC.2.1 hd (k r σ' ho p l e s m args below meth c D ad cI A hC hK hD hA hE H locs ls hP hS hL)
theorem x_ior {x y : Int32} (hd : decode M.2.1 pc = .ok (.ior, 1)) (k : XP κ b M h sh (pc + 1) L (.int (x ||| y) :: S) σ o) : XP κ b M h sh pc L (.int y :: .int x :: S) σ o := by
  intro r σ' ho p l e s m args below meth c D ad cI A hC hK hD hA hE H locs ls hP hS hL
  exact lv_ior hC.1 hC.2.1 hd (k r σ' ho p l e s m args below meth c D ad cI A hC hK hD hA hE H locs ls hP hS hL)
theorem x_ixor {x y : Int32} (hd : decode M.2.1 pc = .ok (.ixor, 1)) (k : XP κ b M h sh (pc + 1) L (.int (x ^^^ y) :: S) σ o) : XP κ b M h sh pc L (.int y :: .int x :: S) σ o := by
  intro r σ' ho p l e s m args below meth c D ad cI A hC hK hD hA hE H locs ls hP hS hL
  exact lv_ixor hC.1 hC.2.1 hd (k r σ' ho p l e s m args below meth c D ad cI A hC hK hD hA hE H locs ls hP hS hL)
theorem x_ishl {x y : Int32} (hd : decode M.2.1 pc = .ok (.ishl, 1)) (k : XP κ b M h sh (pc + 1) L (.int (x <<< (y &&& 31)) :: S) σ o) : XP κ b M h sh pc L (.int y :: .int x :: S) σ o := by
  intro r σ' ho p l e s m args below meth c D ad cI A hC hK hD hA hE H locs ls hP hS hL
  exact lv_ishl hC.1 hC.2.1 hd (k r σ' ho p l e s m args below meth c D ad cI A hC hK hD hA hE H locs ls hP hS hL)
theorem x_ishr {x y : Int32} (hd : decode M.2.1 pc = .ok (.ishr, 1)) (k : XP κ b M h sh (pc + 1) L (.int (x >>> (y &&& 31)) :: S) σ o) : XP κ b M h sh pc L (.int y :: .int x :: S) σ o := by
  intro r σ' ho p l e s m args below meth c D ad cI A hC hK hD hA hE H locs ls hP hS hL
  exact lv_ishr hC.1 hC.2.1 hd (k r σ' ho p l e s m args below meth c D ad cI A hC hK hD hA hE H locs ls hP hS hL)
theorem x_iushr {x y : Int32} (hd : decode M.2.1 pc = .ok (.iushr, 1)) (k : XP κ b M h sh (pc + 1) L (.int ((x.toUInt32 >>> (y.toUInt32 &&& Int32.toUInt32 31)).toInt32) :: S) σ o) : XP κ b M h sh pc L (.int y :: .int x :: S) σ o := by
  intro r σ' ho p l e s m args below meth c D ad cI A hC hK hD hA hE H locs ls hP hS hL
  exact lv_iushr hC.1 hC.2.1 hd rfl (k r σ' ho p l e s m args below meth c D ad cI A hC hK hD hA hE H locs ls hP hS hL)
theorem x_ladd {x y : Int64} (hd : decode M.2.1 pc = .ok (.ladd, 1)) (k : XP κ b M h sh (pc + 1) L (.long (x + y) :: S) σ o) : XP κ b M h sh pc L (.long y :: .long x :: S) σ o := by
  intro r σ' ho p l e s m args below meth c D ad cI A hC hK hD hA hE H locs ls hP hS hL
  exact lv_ladd hC.1 hC.2.1 hd (k r σ' ho p l e s m args below meth c D ad cI A hC hK hD hA hE H locs ls hP hS hL)
theorem x_lmul {x y : Int64} (hd : decode M.2.1 pc = .ok (.lmul, 1)) (k : XP κ b M h sh (pc + 1) L (.long (x * y) :: S) σ o) : XP κ b M h sh pc L (.long y :: .long x :: S) σ o := by
  intro r σ' ho p l e s m args below meth c D ad cI A hC hK hD hA hE H locs ls hP hS hL
  exact lv_lmul hC.1 hC.2.1 hd (k r σ' ho p l e s m args below meth c D ad cI A hC hK hD hA hE H locs ls hP hS hL)
theorem x_idiv {x y : Int32} (hd : decode M.2.1 pc = .ok (.idiv, 1)) (k : XP κ b M h sh (pc + 1) L (.int (x / y) :: S) σ o) : XP κ b M h sh pc L (.int y :: .int x :: S) σ (gz y o) := by
  by_cases hy : y = 0
  · rw [gz, if_pos hy]; exact x_none
  rw [gz, if_neg hy]
  intro r σ' ho p l e s m args below meth c D ad cI A hC hK hD hA hE H locs ls hP hS hL
  exact lv_idiv hC.1 hC.2.1 hd hy (k r σ' ho p l e s m args below meth c D ad cI A hC hK hD hA hE H locs ls hP hS hL)
theorem x_irem {x y : Int32} (hd : decode M.2.1 pc = .ok (.irem, 1)) (k : XP κ b M h sh (pc + 1) L (.int (x - x / y * y) :: S) σ o) : XP κ b M h sh pc L (.int y :: .int x :: S) σ (gz y o) := by
  by_cases hy : y = 0
  · rw [gz, if_pos hy]; exact x_none
  rw [gz, if_neg hy]
  intro r σ' ho p l e s m args below meth c D ad cI A hC hK hD hA hE H locs ls hP hS hL
  exact lv_irem hC.1 hC.2.1 hd hy (k r σ' ho p l e s m args below meth c D ad cI A hC hK hD hA hE H locs ls hP hS hL)
theorem x_i2l {x : Int32} (hd : decode M.2.1 pc = .ok (.i2l, 1)) (k : XP κ b M h sh (pc + 1) L (.long x.toInt64 :: S) σ o) : XP κ b M h sh pc L (.int x :: S) σ o := by
  intro r σ' ho p l e s m args below meth c D ad cI A hC hK hD hA hE H locs ls hP hS hL
  exact lv_i2l hC.1 hC.2.1 hd rfl (k r σ' ho p l e s m args below meth c D ad cI A hC hK hD hA hE H locs ls hP hS hL)
theorem x_dup {v : Value} (hd : decode M.2.1 pc = .ok (.dup, 1)) (hv : v.category = 1) (k : XP κ b M h sh (pc + 1) L (v :: v :: S) σ o) : XP κ b M h sh pc L (v :: S) σ o := by
  intro r σ' ho p l e s m args below meth c D ad cI A hC hK hD hA hE H locs ls hP hS hL
  exact lv_dup hC.1 hC.2.1 hd ((x_v_cat ad v).trans hv) (k r σ' ho p l e s m args below meth c D ad cI A hC hK hD hA hE H locs ls hP hS hL)
theorem x_pop {v : Value} (hd : decode M.2.1 pc = .ok (.pop, 1)) (hv : v.category = 1) (k : XP κ b M h sh (pc + 1) L S σ o) : XP κ b M h sh pc L (v :: S) σ o := by
  intro r σ' ho p l e s m args below meth c D ad cI A hC hK hD hA hE H locs ls hP hS hL
  exact lv_pop hC.1 hC.2.1 hd ((x_v_cat ad v).trans hv) (k r σ' ho p l e s m args below meth c D ad cI A hC hK hD hA hE H locs ls hP hS hL)
theorem x_dup2 {v w : Value} (hd : decode M.2.1 pc = .ok (.dup2, 1)) (hv : v.category = 1) (hw : w.category = 1) (k : XP κ b M h sh (pc + 1) L (v :: w :: v :: w :: S) σ o) : XP κ b M h sh pc L (v :: w :: S) σ o := by
  intro r σ' ho p l e s m args below meth c D ad cI A hC hK hD hA hE H locs ls hP hS hL
  exact lv_dup2_11 hC.1 hC.2.1 hd ((x_v_cat ad v).trans hv) ((x_v_cat ad w).trans hw) (k r σ' ho p l e s m args below meth c D ad cI A hC hK hD hA hE H locs ls hP hS hL)
theorem x_icmp_eq {x y : Int32} {off : Int} (tgt : Nat) (hd : decode M.2.1 pc = .ok (.if_icmp .eq off, 3)) (ht : (pc : Int) + off = (tgt : Int)) (kt : x = y → XP κ b M h sh tgt L S σ o1) (kf : ¬ x = y → XP κ b M h sh (pc + 3) L S σ o2) : XP κ b M h sh pc L (.int y :: .int x :: S) σ (if x = y then o1 else o2) := by
  intro r σ' ho p l e s m args below meth c D ad cI A hC hK hD hA hE H locs ls hP hS hL
  exact lv_icmp_eq hC.1 hC.2.1 hd ht (fun hc => kt hc r σ' (by rw [if_pos hc] at ho; exact ho) p l e s m args below meth c D ad cI A hC hK hD hA hE H locs ls hP hS hL) (fun hc => kf hc r σ' (by rw [if_neg hc] at ho; exact ho) p l e s m args below meth c D ad cI A hC hK hD hA hE H locs ls hP hS hL)
theorem x_if_eq {x : Int32} {off : Int} (tgt : Nat) (hd : decode M.2.1 pc = .ok (.ifCond .eq off, 3)) (ht : (pc : Int) + off = (tgt : Int)) (kt : x = 0 → XP κ b M h sh tgt L S σ o1) (kf : ¬ x = 0 → XP κ b M h sh (pc + 3) L S σ o2) : XP κ b M h sh pc L (.int x :: S) σ (if x = 0 then o1 else o2) := by
  intro r σ' ho p l e s m args below meth c D ad cI A hC hK hD hA hE H locs ls hP hS hL
  exact lv_if_eq hC.1 hC.2.1 hd ht (fun hc => kt hc r σ' (by rw [if_pos hc] at ho; exact ho) p l e s m args below meth c D ad cI A hC hK hD hA hE H locs ls hP hS hL) (fun hc => kf hc r σ' (by rw [if_neg hc] at ho; exact ho) p l e s m args below meth c D ad cI A hC hK hD hA hE H locs ls hP hS hL)
theorem x_icmp_ne {x y : Int32} {off : Int} (tgt : Nat) (hd : decode M.2.1 pc = .ok (.if_icmp .ne off, 3)) (ht : (pc : Int) + off = (tgt : Int)) (kt : ¬ x = y → XP κ b M h sh tgt L S σ o1) (kf : x = y → XP κ b M h sh (pc + 3) L S σ o2) : XP κ b M h sh pc L (.int y :: .int x :: S) σ (if x = y then o2 else o1) := by
  intro r σ' ho p l e s m args below meth c D ad cI A hC hK hD hA hE H locs ls hP hS hL
  exact lv_icmp_ne hC.1 hC.2.1 hd ht (fun hc => kt hc r σ' (by rw [if_neg hc] at ho; exact ho) p l e s m args below meth c D ad cI A hC hK hD hA hE H locs ls hP hS hL) (fun hc => kf hc r σ' (by rw [if_pos hc] at ho; exact ho) p l e s m args below meth c D ad cI A hC hK hD hA hE H locs ls hP hS hL)
theorem x_if_ne {x : Int32} {off : Int} (tgt : Nat) (hd : decode M.2.1 pc = .ok (.ifCond .ne off, 3)) (ht : (pc : Int) + off = (tgt : Int)) (kt : ¬ x = 0 → XP κ b M h sh tgt L S σ o1) (kf : x = 0 → XP κ b M h sh (pc + 3) L S σ o2) : XP κ b M h sh pc L (.int x :: S) σ (if x = 0 then o2 else o1) := by
  intro r σ' ho p l e s m args below meth c D ad cI A hC hK hD hA hE H locs ls hP hS hL
  exact lv_if_ne hC.1 hC.2.1 hd ht (fun hc => kt hc r σ' (by rw [if_neg hc] at ho; exact ho) p l e s m args below meth c D ad cI A hC hK hD hA hE H locs ls hP hS hL) (fun hc => kf hc r σ' (by rw [if_pos hc] at ho; exact ho) p l e s m args below meth c D ad cI A hC hK hD hA hE H locs ls hP hS hL)
theorem x_icmp_lt {x y : Int32} {off : Int} (tgt : Nat) (hd : decode M.2.1 pc = .ok (.if_icmp .lt off, 3)) (ht : (pc : Int) + off = (tgt : Int)) (kt : x < y → XP κ b M h sh tgt L S σ o1) (kf : ¬ x < y → XP κ b M h sh (pc + 3) L S σ o2) : XP κ b M h sh pc L (.int y :: .int x :: S) σ (if x < y then o1 else o2) := by
  intro r σ' ho p l e s m args below meth c D ad cI A hC hK hD hA hE H locs ls hP hS hL
  exact lv_icmp_lt hC.1 hC.2.1 hd ht (fun hc => kt hc r σ' (by rw [if_pos hc] at ho; exact ho) p l e s m args below meth c D ad cI A hC hK hD hA hE H locs ls hP hS hL) (fun hc => kf hc r σ' (by rw [if_neg hc] at ho; exact ho) p l e s m args below meth c D ad cI A hC hK hD hA hE H locs ls hP hS hL)
theorem x_if_lt {x : Int32} {off : Int} (tgt : Nat) (hd : decode M.2.1 pc = .ok (.ifCond .lt off, 3)) (ht : (pc : Int) + off = (tgt : Int)) (kt : x < 0 → XP κ b M h sh tgt L S σ o1) (kf : ¬ x < 0 → XP κ b M h sh (pc + 3) L S σ o2) : XP κ b M h sh pc L (.int x :: S) σ (if x < 0 then o1 else o2) := by
  intro r σ' ho p l e s m args below meth c D ad cI A hC hK hD hA hE H locs ls hP hS hL
  exact lv_if_lt hC.1 hC.2.1 hd ht (fun hc => kt hc r σ' (by rw [if_pos hc] at ho; exact ho) p l e s m args below meth c D ad cI A hC hK hD hA hE H locs ls hP hS hL) (fun hc => kf hc r σ' (by rw [if_neg hc] at ho; exact ho) p l e s m args below meth c D ad cI A hC hK hD hA hE H locs ls hP hS hL)
theorem x_icmp_ge {x y : Int32} {off : Int} (tgt : Nat) (hd : decode M.2.1 pc = .ok (.if_icmp .ge off, 3)) (ht : (pc : Int) + off = (tgt : Int)) (kt : y ≤ x → XP κ b M h sh tgt L S σ o1) (kf : ¬ y ≤ x → XP κ b M h sh (pc + 3) L S σ o2) : XP κ b M h sh pc L (.int y :: .int x :: S) σ (if y ≤ x then o1 else o2) := by
  intro r σ' ho p l e s m args below meth c D ad cI A hC hK hD hA hE H locs ls hP hS hL
  exact lv_icmp_ge hC.1 hC.2.1 hd ht (fun hc => kt hc r σ' (by rw [if_pos hc] at ho; exact ho) p l e s m args below meth c D ad cI A hC hK hD hA hE H locs ls hP hS hL) (fun hc => kf hc r σ' (by rw [if_neg hc] at ho; exact ho) p l e s m args below meth c D ad cI A hC hK hD hA hE H locs ls hP hS hL)
theorem x_if_ge {x : Int32} {off : Int} (tgt : Nat) (hd : decode M.2.1 pc = .ok (.ifCond .ge off, 3)) (ht : (pc : Int) + off = (tgt : Int)) (kt : 0 ≤ x → XP κ b M h sh tgt L S σ o1) (kf : ¬ 0 ≤ x → XP κ b M h sh (pc + 3) L S σ o2) : XP κ b M h sh pc L (.int x :: S) σ (if 0 ≤ x then o1 else o2) := by
  intro r σ' ho p l e s m args below meth c D ad cI A hC hK hD hA hE H locs ls hP hS hL
  exact lv_if_ge hC.1 hC.2.1 hd ht (fun hc => kt hc r σ' (by rw [if_pos hc] at ho; exact ho) p l e s m args below meth c D ad cI A hC hK hD hA hE H locs ls hP hS hL) (fun hc => kf hc r σ' (by rw [if_neg hc] at ho; exact ho) p l e s m args below meth c D ad cI A hC hK hD hA hE H locs ls hP hS hL)
theorem x_icmp_gt {x y : Int32} {off : Int} (tgt : Nat) (hd : decode M.2.1 pc = .ok (.if_icmp .gt off, 3)) (ht : (pc : Int) + off = (tgt : Int)) (kt : y < x → XP κ b M h sh tgt L S σ o1) (kf : ¬ y < x → XP κ b M h sh (pc + 3) L S σ o2) : XP κ b M h sh pc L (.int y :: .int x :: S) σ (if y < x then o1 else o2) := by
  intro r σ' ho p l e s m args below meth c D ad cI A hC hK hD hA hE H locs ls hP hS hL
  exact lv_icmp_gt hC.1 hC.2.1 hd ht (fun hc => kt hc r σ' (by rw [if_pos hc] at ho; exact ho) p l e s m args below meth c D ad cI A hC hK hD hA hE H locs ls hP hS hL) (fun hc => kf hc r σ' (by rw [if_neg hc] at ho; exact ho) p l e s m args below meth c D ad cI A hC hK hD hA hE H locs ls hP hS hL)
theorem x_if_gt {x : Int32} {off : Int} (tgt : Nat) (hd : decode M.2.1 pc = .ok (.ifCond .gt off, 3)) (ht : (pc : Int) + off = (tgt : Int)) (kt : 0 < x → XP κ b M h sh tgt L S σ o1) (kf : ¬ 0 < x → XP κ b M h sh (pc + 3) L S σ o2) : XP κ b M h sh pc L (.int x :: S) σ (if 0 < x then o1 else o2) := by
  intro r σ' ho p l e s m args below meth c D ad cI A hC hK hD hA hE H locs ls hP hS hL
  exact lv_if_gt hC.1 hC.2.1 hd ht (fun hc => kt hc r σ' (by rw [if_pos hc] at ho; exact ho) p l e s m args below meth c D ad cI A hC hK hD hA hE H locs ls hP hS hL) (fun hc => kf hc r σ' (by rw [if_neg hc] at ho; exact ho) p l e s m args below meth c D ad cI A hC hK hD hA hE H locs ls hP hS hL)
theorem x_icmp_le {x y : Int32} {off : Int} (tgt : Nat) (hd : decode M.2.1 pc = .ok (.if_icmp .le off, 3)) (ht : (pc : Int) + off = (tgt : Int)) (kt : x ≤ y → XP κ b M h sh tgt L S σ o1) (kf : ¬ x ≤ y → XP κ b M h sh (pc + 3) L S σ o2) : XP κ b M h sh pc L (.int y :: .int x :: S) σ (if x ≤ y then o1 else o2) := by
  intro r σ' ho p l e s m args below meth c D ad cI A hC hK hD hA hE H locs ls hP hS hL
  exact lv_icmp_le hC.1 hC.2.1 hd ht (fun hc => kt hc r σ' (by rw [if_pos hc] at ho; exact ho) p l e s m args below meth c D ad cI A hC hK hD hA hE H locs ls hP hS hL) (fun hc => kf hc r σ' (by rw [if_neg hc] at ho; exact ho) p l e s m args below meth c D ad cI A hC hK hD hA hE H locs ls hP hS hL)
theorem x_if_le {x : Int32} {off : Int} (tgt : Nat) (hd : decode M.2.1 pc = .ok (.ifCond .le off, 3)) (ht : (pc : Int) + off = (tgt : Int)) (kt : x ≤ 0 → XP κ b M h sh tgt L S σ o1) (kf : ¬ x ≤ 0 → XP κ b M h sh (pc + 3) L S σ o2) : XP κ b M h sh pc L (.int x :: S) σ (if x ≤ 0 then o1 else o2) := by
  intro r σ' ho p l e s m args below meth c D ad cI A hC hK hD hA hE H locs ls hP hS hL
  exact lv_if_le hC.1 hC.2.1 hd ht (fun hc => kt hc r σ' (by rw [if_pos hc] at ho; exact ho) p l e s m args below meth c D ad cI A hC hK hD hA hE H locs ls hP hS hL) (fun hc => kf hc r σ' (by rw [if_neg hc] at ho; exact ho) p l e s m args below meth c D ad cI A hC hK hD hA hE H locs ls hP hS hL)
theorem x_goto {off : Int} (tgt : Nat) (hd : decode M.2.1 pc = .ok (.goto off, 3)) (ht : (pc : Int) + off = (tgt : Int)) (k : XP κ b M h sh tgt L S σ o) : XP κ b M h sh pc L S σ o := by
  intro r σ' ho p l e s m args below meth c D ad cI A hC hK hD hA hE H locs ls hP hS hL
  exact lv_goto hC.1 hC.2.1 hd ht (k r σ' ho p l e s m args below meth c D ad cI A hC hK hD hA hE H locs ls hP hS hL)
theorem x_tabI {dflt lo hi : Int} {offs : Array Int} {len : Nat} {x v : Int32} {off : Int} (tgt : Nat) (hd : decode M.2.1 pc = .ok (.tableswitch dflt lo hi offs, len)) (hx : x = v) (h1 : ¬ v.toInt < lo) (h2 : ¬ hi < v.toInt) (hof : offs[(v.toInt - lo).toNat]? = some off) (ht : (pc : Int) + off = (tgt : Int)) (k : XP κ b M h sh tgt L S σ o) : XP κ b M h sh pc L (.int x :: S) σ o := by
  subst hx
  intro r σ' ho p l e s m args below meth c D ad cI A hC hK hD hA hE H locs ls hP hS hL
  exact lv_tableIn hC.1 hC.2.1 hd h1 h2 hof ht (k r σ' ho p l e s m args below meth c D ad cI A hC hK hD hA hE H locs ls hP hS hL)
theorem x_tabO {dflt lo hi : Int} {offs : Array Int} {len : Nat} {x : Int32} (tgt : Nat) (hd : decode M.2.1 pc = .ok (.tableswitch dflt lo hi offs, len)) (hx : x.toInt < lo ∨ hi < x.toInt) (ht : (pc : Int) + dflt = (tgt : Int)) (k : XP κ b M h sh tgt L S σ o) : XP κ b M h sh pc L (.int x :: S) σ o := by
  intro r σ' ho p l e s m args below meth c D ad cI A hC hK hD hA hE H locs ls hP hS hL
  exact lv_tableOut hC.1 hC.2.1 hd hx ht (k r σ' ho p l e s m args below meth c D ad cI A hC hK hD hA hE H locs ls hP hS hL)
theorem x_look {dflt : Int} {ps : Array (Int × Int)} {len : Nat} {x : Int32} {off : Int} (tgt : Nat) (hd : decode M.2.1 pc = .ok (.lookupswitch dflt ps, len)) (hp : (ps.toList.zip (ps.toList.drop 1)).all (fun (a, next) => a.1 < next.1) = true) (hof : Op.lookupswitch.offset ps.toList dflt x.toInt = off) (ht : (pc : Int) + off = (tgt : Int)) (k : XP κ b M h sh tgt L S σ o) : XP κ b M h sh pc L (.int x :: S) σ o := by
  intro r σ' ho p l e s m args below meth c D ad cI A hC hK hD hA hE H locs ls hP hS hL
  exact lv_lookup hC.1 hC.2.1 hd hp hof ht (k r σ' ho p l e s m args below meth c D ad cI A hC hK hD hA hE H locs ls hP hS hL)
theorem x_ne {x v : Int32} (n : Int) (hv : v.toInt = n) (h : ¬ x = v) : x.toInt ≠ n := fun e => h (Int32.toInt_inj.mp (e.trans hv.symm))
/-! fields and rows of ints -/
def x_FL (own : String) (index ci k : Nat) : Prop := ∃ (C : String) (T : u_T) (N : Nat), CL[ci]? = some (C, T, N) ∧ (∀ w ∈ u_ws C T N, w ∈ xT) ∧ k < N ∧ Cond.fieldLink own index (T k).1 (T k).2.1 (T k).2.2.1 ∈ xT
def x_FP (own : String) (index ci k : Nat) (ty : FieldType) : Prop := ∃ (C : String) (T : u_T) (N : Nat) (ty0 : Nat → FieldType), CL[ci]? = some (C, T, N) ∧ (∀ w ∈ u_ws C T N, w ∈ xT) ∧ k < N ∧ Cond.fieldLink own index (T k).1 (T k).2.1 (T k).2.2.1 ∈ xT ∧
  (∀ k, k < N → parseFieldDescriptor (T k).2.2.1 = some (ty0 k)) ∧ (∀ a, a < N → ∀ b, b < N → a ≠ b → (T a).2.1 ≠ (T b).2.1) ∧ (T k).2.2.2 = false ∧ parseFieldDescriptor (T k).2.2.1 = some ty
theorem x_getI {index ci k i : Nat} {fs : List (Option Nat × Bool)} (hd : decode M.2.1 pc = .ok (.getfield index, 3)) (hl : x_FL M.1 index ci k) (he : sh[i]? = some (.inr (ci, fs))) (hf : fs[k]? = some (none, false)) (kk : XP κ b M h sh (pc + 3) L (.int (σ.1 i k) :: S) σ o) : XP κ b M h sh pc L (.ref i :: S) σ o := by
  obtain ⟨C, T, N, h1, h2, h3, h4⟩ := hl
  intro r σ' ho p l e s m args below meth c D ad cI A hC hK hD hA hE H locs ls hP hS hL
  exact va_get hC.1 hC.2.1 hC.2.2.2.2.2.2 h2 hC.2.2.2.2.1 hK hP i (x_w_at he) h1 k h3 (hC.2.2.2.2.2.2 _ h4) (fun _ h9 => h9) (v := x_v ad (.int (σ.1 i k))) (by simp [hf, x_fv, x_v]) hd (kk r σ' ho p l e s m args below meth c D ad cI A hC hK hD hA hE H locs ls hP hS hL)
theorem x_getL {index ci k i : Nat} {fs : List (Option Nat × Bool)} (hd : decode M.2.1 pc = .ok (.getfield index, 3)) (hl : x_FL M.1 index ci k) (he : sh[i]? = some (.inr (ci, fs))) (hf : fs[k]? = some (none, true)) (kk : XP κ b M h sh (pc + 3) L (.long σ.2 :: S) σ o) : XP κ b M h sh pc L (.ref i :: S) σ o := by
  obtain ⟨C, T, N, h1, h2, h3, h4⟩ := hl
  intro r σ' ho p l e s m args below meth c D ad cI A hC hK hD hA hE H locs ls hP hS hL
  exact va_get hC.1 hC.2.1 hC.2.2.2.2.2.2 h2 hC.2.2.2.2.1 hK hP i (x_w_at he) h1 k h3 (hC.2.2.2.2.2.2 _ h4) (fun _ h9 => h9) (v := x_v ad (.long σ.2)) (by simp [hf, x_fv, x_v]) hd (kk r σ' ho p l e s m args below meth c D ad cI A hC hK hD hA hE H locs ls hP hS hL)
theorem x_getR {index ci k i : Nat} {j : Nat} {fs : List (Option Nat × Bool)} (hd : decode M.2.1 pc = .ok (.getfield index, 3)) (hl : x_FL M.1 index ci k) (he : sh[i]? = some (.inr (ci, fs))) (hf : fs[k]? = some (some j, true)) (kk : XP κ b M h sh (pc + 3) L (.ref j :: S) σ o) : XP κ b M h sh pc L (.ref i :: S) σ o := by
  obtain ⟨C, T, N, h1, h2, h3, h4⟩ := hl
  intro r σ' ho p l e s m args below meth c D ad cI A hC hK hD hA hE H locs ls hP hS hL
  exact va_get hC.1 hC.2.1 hC.2.2.2.2.2.2 h2 hC.2.2.2.2.1 hK hP i (x_w_at he) h1 k h3 (hC.2.2.2.2.2.2 _ h4) (fun _ h9 => h9) (v := x_v ad (.ref j)) (by simp [hf, x_fv, x_v]) hd (kk r σ' ho p l e s m args below meth c D ad cI A hC hK hD hA hE H locs ls hP hS hL)
theorem x_putI {index ci k i : Nat} {v : Int32} {fs : List (Option Nat × Bool)} (hd : decode M.2.1 pc = .ok (.putfield index, 3)) (hl : x_FP M.1 index ci k .int) (he : sh[i]? = some (.inr (ci, fs))) (hf : fs[k]? = some (none, false)) (kk : XP κ b M h sh (pc + 3) L S (up2 σ i k v) o) : XP κ b M h sh pc L (.int v :: .ref i :: S) σ o := by
  obtain ⟨C, T, N, ty0, h1, h2, h3, h4, h5, h6, h7, h8⟩ := hl
  intro r σ' ho p l e s m args below meth c D ad cI A hC hK hD hA hE H locs ls hP hS hL
  refine va_put hC.1 hC.2.1 hC.2.2.2.2.2.2 h2 ty0 h5 h6 hC.2.2.2.2.1 hK hP hD hS i (x_w_at he) h1 k h3 (hC.2.2.2.2.2.2 _ h4) (fun _ h9 => h9) h7 (v := .int v) h8 (vp_nar_int v) rfl (by simp; exact (List.getElem?_eq_some_iff.mp hf).1) hd (fun H1 locs1 hP1 hD1 hS1 => ?_)
  rw [x_w_fst he hf] at hP1 hD1
  exact kk r σ' ho p l e s m args below meth c D ad cI A hC hK hD1 hA hE H1 locs1 ls hP1 hS1 hL
theorem x_putZ {index ci k i : Nat} {v : Int32} {fs : List (Option Nat × Bool)} (hd : decode M.2.1 pc = .ok (.putfield index, 3)) (hl : x_FP M.1 index ci k .boolean) (he : sh[i]? = some (.inr (ci, fs))) (hf : fs[k]? = some (none, false)) (kk : XP κ b M h sh (pc + 3) L S (up2 σ i k v) o) : XP κ b M h sh pc L (.int v :: .ref i :: S) σ (gb v o) := by
  by_cases hv : ¬ (v = 0 ∨ v = 1)
  · rw [gb, if_neg hv]; exact x_none
  have hv := Classical.not_not.mp hv
  rw [gb, if_pos hv]
  obtain ⟨C, T, N, ty0, h1, h2, h3, h4, h5, h6, h7, h8⟩ := hl
  intro r σ' ho p l e s m args below meth c D ad cI A hC hK hD hA hE H locs ls hP hS hL
  refine va_put hC.1 hC.2.1 hC.2.2.2.2.2.2 h2 ty0 h5 h6 hC.2.2.2.2.1 hK hP hD hS i (x_w_at he) h1 k h3 (hC.2.2.2.2.2.2 _ h4) (fun _ h9 => h9) h7 (v := .int v) h8 (by rcases hv with rfl | rfl <;> rfl) (by rcases hv with rfl | rfl <;> rfl) (by simp; exact (List.getElem?_eq_some_iff.mp hf).1) hd (fun H1 locs1 hP1 hD1 hS1 => ?_)
  rw [x_w_fst he hf] at hP1 hD1
  exact kk r σ' ho p l e s m args below meth c D ad cI A hC hK hD1 hA hE H1 locs1 ls hP1 hS1 hL
theorem x_putL {index ci k i : Nat} {v : Int64} {fs : List (Option Nat × Bool)} (hd : decode M.2.1 pc = .ok (.putfield index, 3)) (hl : x_FP M.1 index ci k .long) (he : sh[i]? = some (.inr (ci, fs))) (hf : fs[k]? = some (none, true)) (hu : ∀ (i2 ci2 : Nat) (g : List (Option Nat × Bool)) (j : Nat), sh[i2]? = some (.inr (ci2, g)) → g[j]? = some (none, true) → i2 = i ∧ j = k) (kk : XP κ b M h sh (pc + 3) L S (upl σ v) o) : XP κ b M h sh pc L (.long v :: .ref i :: S) σ o := by
  obtain ⟨C, T, N, ty0, h1, h2, h3, h4, h5, h6, h7, h8⟩ := hl
  intro r σ' ho p l e s m args below meth c D ad cI A hC hK hD hA hE H locs ls hP hS hL
  refine va_put hC.1 hC.2.1 hC.2.2.2.2.2.2 h2 ty0 h5 h6 hC.2.2.2.2.1 hK hP hD hS i (x_w_at he) h1 k h3 (hC.2.2.2.2.2.2 _ h4) (fun _ h9 => h9) h7 (v := .long v) h8 rfl rfl (by simp; exact (List.getElem?_eq_some_iff.mp hf).1) hd (fun H1 locs1 hP1 hD1 hS1 => ?_)
  rw [x_w_lst he hf hu] at hP1 hD1
  exact kk r σ' ho p l e s m args below meth c D ad cI A hC hK hD1 hA hE H1 locs1 ls hP1 hS1 hL
theorem x_iald {c0 n : Nat} {i : Int32} (hd : decode M.2.1 pc = .ok (.iaload, 1)) (he : sh[c0]? = some (.inl n)) (kk : XP κ b M h sh (pc + 1) L (.int (σ.1 c0 i.toNatClampNeg) :: S) σ o) : XP κ b M h sh pc L (.int i :: .ref c0 :: S) σ (gi i n o) := by
  by_cases hi : i < 0 ∨ n ≤ i.toNatClampNeg
  · rw [gi, if_pos hi]; exact x_none
  rw [gi, if_neg hi]
  intro r σ' ho p l e s m args below meth c D ad cI A hC hK hD hA hE H locs ls hP hS hL
  exact va_iald hC.1 hC.2.1 hK hP c0 0 (x_w_at he) rfl hi hd (kk r σ' ho p l e s m args below meth c D ad cI A hC hK hD hA hE H locs ls hP hS hL)
theorem x_iast {c0 n : Nat} {i x : Int32} (hd : decode M.2.1 pc = .ok (.iastore, 1)) (he : sh[c0]? = some (.inl n)) (kk : XP κ b M h sh (pc + 1) L S (up2 σ c0 i.toNatClampNeg x) o) : XP κ b M h sh pc L (.int x :: .int i :: .ref c0 :: S) σ (gi i n o) := by
  by_cases hi : i < 0 ∨ n ≤ i.toNatClampNeg
  · rw [gi, if_pos hi]; exact x_none
  rw [gi, if_neg hi]
  intro r σ' ho p l e s m args below meth c D ad cI A hC hK hD hA hE H locs ls hP hS hL
  refine va_iast hC.1 hC.2.1 hK hP hD hS c0 0 (x_w_at he) rfl hi hd (fun H1 locs1 hP1 hD1 hS1 => ?_)
  rw [x_w_ast he] at hP1 hD1
  exact kk r σ' ho p l e s m args below meth c D ad cI A hC hK hD1 hA hE H1 locs1 ls hP1 hS1 hL
theorem x_sum (ad : Nat → Nat) (S : List Value) : ((S.map (x_v ad)).map fun v => v.category).sum = (S.map fun v => v.category).sum := by
  induction S with
  | nil => rfl
  | cons v S ih => simp only [List.map_cons, List.sum_cons, ih, x_v_cat]
/-! a named value, a named state -/
def vb {α β : Type} (x : α) (k : α → β) : β := k x
theorem x_istore_nB {n : Fin 4} {i : Nat} {x : Int32} {k : Int32 → Option (ρ × xSt)} (hd : decode M.2.1 pc = .ok (.istore_n n, 1)) (hi : (n : Nat) = i) (hn : Nat.ble (i + 1) M.2.2.1 = true) (hq : x_nl L i = true) (kk : ∀ v : Int32, XP κ b M h sh (pc + 1) (L.set i (some (.int v))) S σ (k v)) : XP κ b M h sh pc L (.int x :: S) σ (vb x k) := x_istore_n hd hi hn hq (kk x)
theorem x_istoreB {i : Nat} {x : Int32} {k : Int32 → Option (ρ × xSt)} (hd : decode M.2.1 pc = .ok (.istore i, 2)) (hn : Nat.ble (i + 1) M.2.2.1 = true) (hq : x_nl L i = true) (kk : ∀ v : Int32, XP κ b M h sh (pc + 2) (L.set i (some (.int v))) S σ (k v)) : XP κ b M h sh pc L (.int x :: S) σ (vb x k) := x_istore hd hn hq (kk x)
theorem x_lstore_nB {n : Fin 4} {i : Nat} {x : Int64} {k : Int64 → Option (ρ × xSt)} (hd : decode M.2.1 pc = .ok (.lstore_n n, 1)) (hi : (n : Nat) = i) (hn : Nat.ble (i + 1 + 1) M.2.2.1 = true) (hq : x_nl L i = true) (kk : ∀ v : Int64, XP κ b M h sh (pc + 1) ((L.set (i + 1) none).set i (some (.long v))) S σ (k v)) : XP κ b M h sh pc L (.long x :: S) σ (vb x k) := x_lstore_n hd hi hn hq (kk x)
theorem x_lstoreB {i : Nat} {x : Int64} {k : Int64 → Option (ρ × xSt)} (hd : decode M.2.1 pc = .ok (.lstore i, 2)) (hn : Nat.ble (i + 1 + 1) M.2.2.1 = true) (hq : x_nl L i = true) (kk : ∀ v : Int64, XP κ b M h sh (pc + 2) ((L.set (i + 1) none).set i (some (.long v))) S σ (k v)) : XP κ b M h sh pc L (.long x :: S) σ (vb x k) := x_lstore hd hn hq (kk x)
theorem x_iastB {c0 n : Nat} {i x : Int32} {k : xSt → Option (ρ × xSt)} (hd : decode M.2.1 pc = .ok (.iastore, 1)) (he : sh[c0]? = some (.inl n)) (kk : ∀ σ1 : xSt, XP κ b M h sh (pc + 1) L S σ1 (k σ1)) : XP κ b M h sh pc L (.int x :: .int i :: .ref c0 :: S) σ (gi i n (vb (up2 σ c0 i.toNatClampNeg x) k)) := x_iast hd he (kk _)
theorem x_putIB {index ci k0 i : Nat} {v : Int32} {fs : List (Option Nat × Bool)} {k : xSt → Option (ρ × xSt)} (hd : decode M.2.1 pc = .ok (.putfield index, 3)) (hl : x_FP M.1 index ci k0 .int) (he : sh[i]? = some (.inr (ci, fs))) (hf : fs[k0]? = some (none, false)) (kk : ∀ σ1 : xSt, XP κ b M h sh (pc + 3) L S σ1 (k σ1)) : XP κ b M h sh pc L (.int v :: .ref i :: S) σ (vb (up2 σ i k0 v) k) := x_putI hd hl he hf (kk _)
theorem x_putZB {index ci k0 i : Nat} {v : Int32} {fs : List (Option Nat × Bool)} {k : xSt → Option (ρ × xSt)} (hd : decode M.2.1 pc = .ok (.putfield index, 3)) (hl : x_FP M.1 index ci k0 .boolean) (he : sh[i]? = some (.inr (ci, fs))) (hf : fs[k0]? = some (none, false)) (kk : ∀ σ1 : xSt, XP κ b M h sh (pc + 3) L S σ1 (k σ1)) : XP κ b M h sh pc L (.int v :: .ref i :: S) σ (gb v (vb (up2 σ i k0 v) k)) := x_putZ hd hl he hf (kk _)
theorem x_putLB {index ci k0 i : Nat} {v : Int64} {fs : List (Option Nat × Bool)} {k : xSt → Option (ρ × xSt)} (hd : decode M.2.1 pc = .ok (.putfield index, 3)) (hl : x_FP M.1 index ci k0 .long) (he : sh[i]? = some (.inr (ci, fs))) (hf : fs[k0]? = some (none, true)) (hu : ∀ (i2 ci2 : Nat) (g : List (Option Nat × Bool)) (j : Nat), sh[i2]? = some (.inr (ci2, g)) → g[j]? = some (none, true) → i2 = i ∧ j = k0) (kk : ∀ σ1 : xSt, XP κ b M h sh (pc + 3) L S σ1 (k σ1)) : XP κ b M h sh pc L (.long v :: .ref i :: S) σ (vb (upl σ v) k) := x_putL hd hl he hf hu (kk _)
theorem x_mmax {x y : Int32} {index : Nat} (hd : decode M.2.1 pc = .ok (.invokestatic index, 3)) (hl : Cond.methodLink M.1 index Lib.Math.max.name ∈ xT ∧ Cond.static Lib.Math.max.name ∈ xT ∧ Cond.initialized "java/lang/Math" ∈ xT ∧ Cond.code Lib.Math.max.name Lib.Math.max.code 2 (some .int) ∈ xT) (hh : Nat.ble 1 h = true) (hw : Nat.ble ((S.map fun v => v.category).sum) 8 = true) (k : XP κ b M h sh (pc + 3) L (.int (if x < y then y else x) :: S) σ o) : XP κ b M h sh pc L (.int y :: .int x :: S) σ o := by
  intro r σ' ho p l e s m args below meth c D ad cI A hC hK hD hA hE H locs ls hP hS hL
  have h1 := Nat.le_of_ble_eq_true hh
  have h2 := Nat.le_of_ble_eq_true hw
  exact va_mmax hC.1 hC.2.1 (hC.2.2.2.1.trans hL.1.symm) hC.2.2.2.2.1 (hC.2.2.2.2.2.2 _ hl.1) (hC.2.2.2.2.2.2 _ hl.2.1) (hC.2.2.2.2.2.2 _ hl.2.2.1) (hC.2.2.2.2.2.2 _ hl.2.2.2) h1 (by rw [x_sum]; show _ + 13 ≤ 64 * h; omega) (Nat.le_refl _) (Nat.le_refl _) hd (k r σ' ho p l e s m args below meth c D ad cI A hC hK hD hA hE H locs ls hP hS hL)
theorem x_mmin {x y : Int32} {index : Nat} (hd : decode M.2.1 pc = .ok (.invokestatic index, 3)) (hl : Cond.methodLink M.1 index Lib.Math.min.name ∈ xT ∧ Cond.static Lib.Math.min.name ∈ xT ∧ Cond.initialized "java/lang/Math" ∈ xT ∧ Cond.code Lib.Math.min.name Lib.Math.min.code 2 (some .int) ∈ xT) (hh : Nat.ble 1 h = true) (hw : Nat.ble ((S.map fun v => v.category).sum) 8 = true) (k : XP κ b M h sh (pc + 3) L (.int (if y < x then y else x) :: S) σ o) : XP κ b M h sh pc L (.int y :: .int x :: S) σ o := by
  intro r σ' ho p l e s m args below meth c D ad cI A hC hK hD hA hE H locs ls hP hS hL
  have h1 := Nat.le_of_ble_eq_true hh
  have h2 := Nat.le_of_ble_eq_true hw
  exact va_mmin hC.1 hC.2.1 (hC.2.2.2.1.trans hL.1.symm) hC.2.2.2.2.1 (hC.2.2.2.2.2.2 _ hl.1) (hC.2.2.2.2.2.2 _ hl.2.1) (hC.2.2.2.2.2.2 _ hl.2.2.1) (hC.2.2.2.2.2.2 _ hl.2.2.2) h1 (by rw [x_sum]; show _ + 13 ≤ 64 * h; omega) (Nat.le_refl _) (Nat.le_refl _) hd (k r σ' ho p l e s m args below meth c D ad cI A hC hK hD hA hE H locs ls hP hS hL)
theorem x_le_e {q : List (Option Value)} : x_le [] q := trivial
theorem x_le_s {v : Value} {w : Option Value} {p q : List (Option Value)} (hv : w = some v) (ht : x_le p q) : x_le (some v :: p) (w :: q) := ⟨hv, ht⟩
theorem x_le_n {w : Option Value} {p q : List (Option Value)} (ht : x_le p q) : x_le (none :: p) (w :: q) := ht
theorem x_inw {C : String} {T : u_T} {N : Nat} (ps : List Nat) (hp : u_ws C T N = ps.filterMap (fun i => lw_tbl[i]?)) (hg : (u_ws C T N).all goodWord = true) : ∀ w ∈ u_ws C T N, w ∈ xT := by
  intro w hw
  have hg1 := List.all_eq_true.mp hg w hw
  rw [hp] at hw
  obtain ⟨i, -, hi⟩ := List.mem_filterMap.mp hw
  exact xT_of i hi hg1
/-! returns -/
theorem x_iret {v : Int32} (hd : decode M.2.1 pc = .ok (.ireturn, 1)) (hr : M.2.2.2 = some .int) : XP κi b M h sh pc L [.int v] σ (some (v, σ)) := by
  intro r σ' ho p l e s m args below meth c D ad cI A hC hK hD hA hE H locs ls hP hS hL
  cases ho
  exact W.iret hC.1 hC.2.1 (hC.2.2.1.trans hr) (fun t ht hW => ⟨rfl, by rw [ht]; exact hP, va_K.moved hW.alike hK, hS.F ht⟩) hS.2.2 hd hC.2.2.2.2.2.1
theorem x_zret {v : Int32} (hd : decode M.2.1 pc = .ok (.ireturn, 1)) (hr : M.2.2.2 = some .boolean) : XP κi b M h sh pc L [.int v] σ (gb v (some (v, σ))) := by
  by_cases hv : ¬ (v = 0 ∨ v = 1)
  · rw [gb, if_neg hv]; exact x_none
  have hv := Classical.not_not.mp hv
  rw [gb, if_pos hv]
  intro r σ' ho p l e s m args below meth c D ad cI A hC hK hD hA hE H locs ls hP hS hL
  cases ho
  exact W.zret hC.1 hC.2.1 (hC.2.2.1.trans hr) (by rcases hv with rfl | rfl <;> rfl) (fun t ht hW => ⟨rfl, by rw [ht]; exact hP, va_K.moved hW.alike hK, hS.F ht⟩) hS.2.2 hd hC.2.2.2.2.2.1
theorem x_lret {v : Int64} (hd : decode M.2.1 pc = .ok (.lreturn, 1)) (hr : M.2.2.2 = some .long) : XP κl b M h sh pc L [.long v] σ (some (v, σ)) := by
  intro r σ' ho p l e s m args below meth c D ad cI A hC hK hD hA hE H locs ls hP hS hL
  cases ho
  exact W.lret hC.1 hC.2.1 (hC.2.2.1.trans hr) (fun t ht hW => ⟨rfl, by rw [ht]; exact hP, va_K.moved hW.alike hK, hS.F ht⟩) hS.2.2 hd hC.2.2.2.2.2.1
theorem x_vret (hd : decode M.2.1 pc = .ok (.return_, 1)) (hr : M.2.2.2 = none) : XP κv b M h sh pc L [] σ (some ((), σ)) := by
  intro r σ' ho p l e s m args below meth c D ad cI A hC hK hD hA hE H locs ls hP hS hL
  cases ho
  exact W.vret hC.1 hC.2.1 (hC.2.2.1.trans hr) (fun t ht hW => ⟨rfl, by rw [ht]; exact hP, va_K.moved hW.alike hK, hS.F ht⟩) hS.2.2 hd hC.2.2.2.2.2.1
theorem x_aret {v : Nat} {n : String} (hd : decode M.2.1 pc = .ok (.areturn, 1)) (hr : M.2.2.2 = some (.object n)) : XP κa b M h sh pc L [.ref v] σ (some (v, σ)) := by
  intro r σ' ho p l e s m args below meth c D ad cI A hC hK hD hA hE H locs ls hP hS hL
  cases ho
  exact W.aret hC.1 hC.2.1 (hC.2.2.1.trans hr) (Or.inl ⟨n, rfl⟩) (Or.inr ⟨_, rfl⟩) (fun t ht hW => ⟨rfl, by rw [ht]; exact hP, va_K.moved hW.alike hK, hS.F ht⟩) hS.2.2 hd hC.2.2.2.2.2.1
/-! calls -/
def x_B (b : Bool) (D : va_G) (ad : Nat → Nat) (cI : ClassId) (sh : xSh) (σ : xSt) (sz : Nat) : State → Prop := fun U => U.heap.size = sz ∧ va_P D CL (x_w ad cI sh σ) U.heap ∧ va_K D CL [(cI, .int)] U ∧ va_D (fun _ => True) (x_w ad cI sh σ) ∧ x_E b ad (va_A (x_w ad cI sh σ) sz) U U.heap
def Con (y : MethodName) (M : xM) (b : Bool) (h : Nat) (sh : xSh) (av : List Value) (σ : xSt) (rv : Option Value) (σ' : xSt) : Prop :=
  ∀ (l : Launch) (D : va_G) (ad : Nat → Nat) (cI : ClassId) (sz : Nat), Met l y (.code y M.2.1 M.2.2.1 M.2.2.2 :: xT) (x_rm h) (va_Pc (av.map (x_v ad)) (x_B b D ad cI sh σ sz)) (x_Q D ad cI sh (va_A (x_w ad cI sh σ) sz) rv σ') 0 0 (va_A (x_w ad cI sh σ) sz)
def CON {ρ : Type} (κ : ρ → Option Value) (y : MethodName) (M : xM) (b : Bool) (h : Nat) (sh : xSh) (av : List Value) (σ : xSt) (o : Option (ρ × xSt)) : Prop := ∀ r σ', o = some (r, σ') → Con y M b h sh av σ (κ r) σ'
theorem x_B_blind (b : Bool) (D : va_G) (ad : Nat → Nat) (cI : ClassId) (sh : xSh) (σ : xSt) (sz : Nat) (av : List Value) : FrameBlind (va_Pc av (x_B b D ad cI sh σ sz)) := by
  intro a U g mk q
  obtain ⟨q0, q1, qP, qK, qD, qE⟩ := q
  exact ⟨q0, q1, qP, va_K.moved (u := U) (U := U.calling g mk a) (Vm.Alike.refl U.vm) qK, qD, qE.calling⟩
theorem x_len (y : MethodName) {M : xM} (hc : Cond.code y M.2.1 M.2.2.1 M.2.2.2 ∈ xT) : ∀ w ∈ (Cond.code y M.2.1 M.2.2.1 M.2.2.2 :: xT), w ∈ xT := fun w hw => (List.mem_cons.mp hw).elim (fun e => e ▸ hc) id
def x_SL (own : String) (index : Nat) (y : MethodName) (M : xM) (n : Nat) : Prop := (Cond.methodLink own index y ∈ xT ∧ Cond.static y ∈ xT ∧ Cond.initialized y.cls ∈ xT ∧ Cond.code y M.2.1 M.2.2.1 M.2.2.2 ∈ xT) ∧ (y.cls ≠ "java/lang/invoke/MethodHandle" ∧ y.cls ≠ "java/lang/invoke/VarHandle" ∧ (parseMethodDescriptor y.desc).map (fun d => d.parameters.length) = some n) ∧ M.2.2.1 ≤ 45
def x_SN (own : String) (index : Nat) (y : MethodName) (M : xM) (n : Nat) : Prop := ((∃ host : String, Cond.methodLinkNest own index y host ∈ lw_tbl) ∧ Cond.static y ∈ xT ∧ Cond.initialized y.cls ∈ xT ∧ Cond.code y M.2.1 M.2.2.1 M.2.2.2 ∈ xT) ∧ (y.cls ≠ "java/lang/invoke/MethodHandle" ∧ y.cls ≠ "java/lang/invoke/VarHandle" ∧ (parseMethodDescriptor y.desc).map (fun d => d.parameters.length) = some n) ∧ M.2.2.1 ≤ 45
def x_VL (own : String) (index : Nat) (y : MethodName) (M : xM) (n : Nat) : Prop := (Cond.methodLink own index y ∈ xT ∧ Cond.instanceMethod y ∈ xT ∧ Cond.selects y.cls y y ∈ xT ∧ Cond.initialized y.cls ∈ xT ∧ Cond.code y M.2.1 M.2.2.1 M.2.2.2 ∈ xT) ∧ (y.cls ≠ "java/lang/invoke/MethodHandle" ∧ y.cls ≠ "java/lang/invoke/VarHandle" ∧ (parseMethodDescriptor y.desc).map (fun d => d.parameters.length) = some n) ∧ M.2.2.1 ≤ 45
theorem x_room {h h' n : Nat} (hh : h' + 1 ≤ h) (hn : n ≤ 45) : (x_rm h').frames + 1 ≤ (x_rm h).frames ∧ 8 + (n + 11) + (x_rm h').locals ≤ (x_rm h).locals := ⟨hh, by show 8 + (n + 11) + 64 * h' ≤ 64 * h; omega⟩
theorem x_run {p : Program} {l : Launch} {e : Env} {s : State} {m : MethodId} {args : Array Value} {below : List Frame} {meth : Method} {c : Code} {R : Room} {H : Heap} {locs : List Loc} {Q : State → Prop} {pc : Nat} {ls : Array Slot} {rest st0 : List Value} {a : Array Value} {A A1 : Nat → Prop} {free : Addr → Prop} {D : va_G} {ad : Nat → Nat} {cI : ClassId} {rv : Option Value} {σ1 : xSt}
    (hr : va_Run p l e R s m args below meth c H locs 0 0 0 0 (F0 m pc ls st0) rest (x_Q D ad cI sh A1 rv σ1 a) free) (hS : va_S A s.heap H locs) (hA : ∀ q, q < H.size → A1 q → A q) (hf : ∀ q, free q → A q)
    (kk : ∀ (H1 : Heap) (locs1 : List Loc), va_P D CL (x_w ad cI sh σ1) H1 → va_S A s.heap H1 locs1 → W p l e R s m args below meth c H1 locs1 0 0 Q (F0 m (pc + 3) ls ((rv.map (x_v ad)).toList ++ rest))) : W p l e R s m args below meth c H locs 0 0 Q (F0 m pc ls st0) := by
  intro T hT X
  obtain ⟨v, st₀, t, T', L, h0, X', hL, e1, e2, ⟨hv, hp, hk, hz, hkk⟩, st⟩ := hr T hT X
  cases hv
  rw [h0] at hz hkk
  obtain ⟨t2, a1, b1⟩ := kk T'.heap (locs ++ L) (by rw [e1]; exact hp)
    ⟨Nat.le_trans hS.1 (by rw [e1]; exact hz), fun q h1 h2 => by rw [e1, hkk q (Nat.lt_of_lt_of_le h1 hS.1) (fun z => h2 (hA q (Nat.lt_of_lt_of_le h1 hS.1) z))]; exact hS.2.1 q h1 h2, fun q hq => by
      rcases List.mem_append.mp hq with h | h
      · exact hS.2.2 q h
      · exact hf _ (hL q h)⟩ T' rfl X'
  exact ⟨t2, st t2 a1, b1⟩
theorem x_free {ad : Nat → Nat} {cI : ClassId} {A : Nat → Prop} {H0 H : Heap} {locs : List Loc} (hD : va_D A (x_w ad cI sh σ)) (hS : va_S A H0 H locs) (hA : ∀ q, H0.size ≤ q → A q) : ∀ q, va_A (x_w ad cI sh σ) H.size q → A q := by
  rintro q (⟨k, e, hk⟩ | hq)
  · exact hD.2 k _ hk
  · exact hA q (Nat.le_trans hS.1 hq)
theorem x_callS {ρ' : Type} {κ' : ρ' → Option Value} {y : MethodName} {M' : xM} {h' n index : Nat} {av : List Value} {oc : Option (ρ' × xSt)} {k : ρ' → xSt → Option (ρ × xSt)} (hd : decode M.2.1 pc = .ok (.invokestatic index, 3)) (hl : x_SL M.1 index y M' n) (hc : CON κ' y M' b h' sh av σ oc) (hh : Nat.ble (h' + 1) h = true) (hn : av.length = n) (hw : Nat.ble ((S.map fun v => v.category).sum) 8 = true)
    (kk : ∀ r σ1, XP κ b M h sh (pc + 3) L ((κ' r).toList ++ S) σ1 (k r σ1)) : XP κ b M h sh pc L (av.reverse ++ S) σ (bnd oc k) := by
  cases ho : oc with
  | none => exact x_none
  | some q =>
    obtain ⟨r1, σ1⟩ := q
    show XP κ b M h sh pc L (av.reverse ++ S) σ (k r1 σ1)
    have hcn := hc r1 σ1 ho
    intro r σ' ho p l e s m args below meth c D ad cI A hC hK hD hA hE H locs ls hP hS hL
    obtain ⟨⟨w1, w2, w3, w4⟩, hd3, hm⟩ := hl
    have hfr := x_free hD hS hA
    have hst : (av.reverse ++ S).map (x_v ad) = (av.map (x_v ad)).reverse ++ S.map (x_v ad) := by rw [List.map_append, List.map_reverse]
    rw [hst]
    refine x_run (A := A) (va_runS (nL := M.2.2.1) (As := av.map (x_v ad)) (rest := S.map (x_v ad)) (own := M.1) (Ts := xT) ⟨hC.1, hC.2.1, hC.2.2.2.1, hC.2.2.2.2.1, hC.2.2.2.2.2.2⟩ (hcn l D ad cI H.size) (va_cwS n hC.2.2.2.2.2.2 (x_GoodIn ?_) rfl rfl rfl hd3 (x_room (Nat.le_of_ble_eq_true hh) hm)) ⟨x_B_blind _ _ _ _ _ _ _ _, fun U hU hWm => ⟨rfl, by rw [hU], by rw [hU]; exact hP, va_K.moved hWm.alike hK, hD.weaken (fun _ _ _ _ => trivial), by rw [hU]; exact hE.go hWm hS.2.1 hfr⟩⟩ rfl (by rw [List.length_map]; exact hn) hL.1 rfl (by show 2 * 0 + _ ≤ 8; rw [x_sum]; have := Nat.le_of_ble_eq_true hw; omega) hd ⟨Nat.le_refl _, Nat.le_refl _⟩) hS (fun q _ h => hfr q h) hfr (fun H1 locs1 hP1 hS1 => ?_)
    · intro w hw
      simp only [va_wsS, List.mem_append, List.mem_cons, List.not_mem_nil, or_false] at hw
      rcases hw with (rfl | rfl | rfl) | rfl | hw
      · exact w1
      · exact w2
      · exact w3
      · exact w4
      · exact hw
    · have h9 := kk r1 σ1 r σ' ho p l e s m args below meth c D ad cI A hC hK (x_D hD) hA hE H1 locs1 ls hP1 hS1 hL
      rw [List.map_append] at h9
      cases hk9 : κ' r1 with
      | none => rw [hk9] at h9; exact h9
      | some v => rw [hk9] at h9; exact h9
theorem x_callN {ρ' : Type} {κ' : ρ' → Option Value} {y : MethodName} {M' : xM} {h' n index : Nat} {av : List Value} {oc : Option (ρ' × xSt)} {k : ρ' → xSt → Option (ρ × xSt)} (hd : decode M.2.1 pc = .ok (.invokestatic index, 3)) (hl : x_SN M.1 index y M' n) (hl2 : ∀ host : String, Cond.methodLinkNest M.1 index y host ∈ lw_tbl → Cond.methodLinkNest M.1 index y host ∈ xT) (hc : CON κ' y M' b h' sh av σ oc) (hh : Nat.ble (h' + 1) h = true) (hn : av.length = n) (hw : Nat.ble ((S.map fun v => v.category).sum) 8 = true)
    (kk : ∀ r σ1, XP κ b M h sh (pc + 3) L ((κ' r).toList ++ S) σ1 (k r σ1)) : XP κ b M h sh pc L (av.reverse ++ S) σ (bnd oc k) := by
  cases ho : oc with
  | none => exact x_none
  | some q =>
    obtain ⟨r1, σ1⟩ := q
    show XP κ b M h sh pc L (av.reverse ++ S) σ (k r1 σ1)
    have hcn := hc r1 σ1 ho
    intro r σ' ho p l e s m args below meth c D ad cI A hC hK hD hA hE H locs ls hP hS hL
    obtain ⟨⟨⟨host, w1⟩, w2, w3, w4⟩, hd3, hm⟩ := hl
    have w1 := hl2 host w1
    have hfr := x_free hD hS hA
    have hst : (av.reverse ++ S).map (x_v ad) = (av.map (x_v ad)).reverse ++ S.map (x_v ad) := by rw [List.map_append, List.map_reverse]
    rw [hst]
    refine x_run (A := A) (va_runSN (nL := M.2.2.1) (As := av.map (x_v ad)) (rest := S.map (x_v ad)) (own := M.1) (Ts := xT) ⟨hC.1, hC.2.1, hC.2.2.2.1, hC.2.2.2.2.1, hC.2.2.2.2.2.2⟩ (hcn l D ad cI H.size) ⟨va_cnB n hC.2.2.2.2.2.2 (x_GoodIn (x_len y w4)) rfl rfl rfl (va_Nw.of rfl (hC.2.2.2.2.2.2 _ w1)) (hC.2.2.2.2.2.2 _ w3) hd3 (x_room (Nat.le_of_ble_eq_true hh) hm), hC.2.2.2.2.2.2 _ w2, trivial⟩ ⟨x_B_blind _ _ _ _ _ _ _ _, fun U hU hWm => ⟨rfl, by rw [hU], by rw [hU]; exact hP, va_K.moved hWm.alike hK, hD.weaken (fun _ _ _ _ => trivial), by rw [hU]; exact hE.go hWm hS.2.1 hfr⟩⟩ rfl (by rw [List.length_map]; exact hn) hL.1 rfl (by show 2 * 0 + _ ≤ 8; rw [x_sum]; have := Nat.le_of_ble_eq_true hw; omega) hd ⟨Nat.le_refl _, Nat.le_refl _⟩) hS (fun q _ h => hfr q h) hfr (fun H1 locs1 hP1 hS1 => ?_)
    have h9 := kk r1 σ1 r σ' ho p l e s m args below meth c D ad cI A hC hK (x_D hD) hA hE H1 locs1 ls hP1 hS1 hL
    rw [List.map_append] at h9
    cases hk9 : κ' r1 with
    | none => rw [hk9] at h9; exact h9
    | some v => rw [hk9] at h9; exact h9
theorem x_callV {ρ' : Type} {κ' : ρ' → Option Value} {y : MethodName} {M' : xM} {h' n index i ci : Nat} {q : vw_C} {fs : List (Option Nat × Bool)} {av : List Value} {oc : Option (ρ' × xSt)} {k : ρ' → xSt → Option (ρ × xSt)} (hd : decode M.2.1 pc = .ok (.invokevirtual index, 3)) (hl : x_VL M.1 index y M' n) (hc : CON κ' y M' b h' sh (.ref i :: av) σ oc) (he : sh[i]? = some (.inr (ci, fs))) (hcl : CL[ci]? = some q) (hq : q.1 = y.cls) (hh : Nat.ble (h' + 1) h = true) (hn : av.length = n) (hw : Nat.ble ((S.map fun v => v.category).sum) 8 = true)
    (kk : ∀ r σ1, XP κ b M h sh (pc + 3) L ((κ' r).toList ++ S) σ1 (k r σ1)) : XP κ b M h sh pc L (av.reverse ++ .ref i :: S) σ (bnd oc k) := by
  cases ho : oc with
  | none => exact x_none
  | some q =>
    obtain ⟨r1, σ1⟩ := q
    show XP κ b M h sh pc L (av.reverse ++ .ref i :: S) σ (k r1 σ1)
    have hcn := hc r1 σ1 ho
    intro r σ' ho p l e s m args below meth c D ad cI A hC hK hD hA hE H locs ls hP hS hL
    obtain ⟨⟨w1, w2, w5, w3, w4⟩, hd3, hm⟩ := hl
    have hfr := x_free hD hS hA
    have hst : (av.reverse ++ .ref i :: S).map (x_v ad) = (av.map (x_v ad)).reverse ++ .ref (ad i) :: S.map (x_v ad) := by rw [List.map_append, List.map_reverse]; rfl
    rw [hst]
    refine x_run (A := A) (va_runV (nL := M.2.2.1) (C := y.cls) (b := ad i) (As := av.map (x_v ad)) (rest := S.map (x_v ad)) (own := M.1) (Ts := xT) ⟨hC.1, hC.2.1, hC.2.2.2.1, hC.2.2.2.2.1, hC.2.2.2.2.2.2⟩ (hcn l D ad cI H.size) (cwV n hC.2.2.2.2.2.2 (x_GoodIn ?_) rfl rfl rfl ⟨rfl, hd3⟩ (x_room (Nat.le_of_ble_eq_true hh) hm)) ⟨x_B_blind _ _ _ _ _ _ _ _, hq ▸ va_recv hK hP hcl (x_w_at he), fun U hU hWm => ⟨rfl, by rw [hU], by rw [hU]; exact hP, va_K.moved hWm.alike hK, hD.weaken (fun _ _ _ _ => trivial), by rw [hU]; exact hE.go hWm hS.2.1 hfr⟩⟩ rfl (by rw [List.length_map]; exact hn) hL.1 rfl (by show 2 * 0 + _ ≤ 8; rw [x_sum]; have := Nat.le_of_ble_eq_true hw; omega) hd ⟨Nat.le_refl _, Nat.le_refl _⟩) hS (fun q _ h => hfr q h) hfr (fun H1 locs1 hP1 hS1 => ?_)
    · intro w hw
      simp only [wsV, List.mem_append, List.mem_cons, List.not_mem_nil, or_false] at hw
      rcases hw with (rfl | rfl | rfl | rfl) | rfl | hw
      · exact w1
      · exact w2
      · exact w5
      · exact w3
      · exact w4
      · exact hw
    · have h9 := kk r1 σ1 r σ' ho p l e s m args below meth c D ad cI A hC hK (x_D hD) hA hE H1 locs1 ls hP1 hS1 hL
      rw [List.map_append] at h9
      cases hk9 : κ' r1 with
      | none => rw [hk9] at h9; exact h9
      | some v => rw [hk9] at h9; exact h9
/-- a method's contract out of its walk -/
theorem x_con {y : MethodName} {av : List Value} (hy : plainName y.cls = true) (ho : M.1 = y.cls) (hn : Nat.ble (lg_sl (av.map fun v => v)).length M.2.2.1 = true) (hL : x_ent av ++ List.replicate (M.2.2.1 - (x_ent av).length) none = L) (k : XP κ b M h sh 0 L [] σ o) : CON κ y M b h sh av σ o := by
  intro r σ' hor l D ad cI sz
  refine Met.ofW (cc := M.2.1) (maxL := M.2.2.1) (ret := M.2.2.2) hy rfl ?_
  intro p e s m args below meth c s₁ B hml hv
  obtain ⟨rfl, hsz, hP, hK, hD0, hE⟩ := hv
  have hts := atoms_spec (ws := (.code y M.2.1 M.2.2.1 M.2.2.2 :: xT)) B.pre
  have hown : s.vm.findClass y.cls = some m.cls := findClass_of_methodNamed B.named
  subst hsz
  have hD := hD0.self (sz := s.heap.size)
  have hlen : ∀ av : List Value, (lg_sl (av.map (x_v ad))).length = (lg_sl (av.map fun v => v)).length := by
    intro av
    induction av with
    | nil => rfl
    | cons v av ih => simp only [lg_sl, List.map_cons, List.flatMap_cons, List.length_append, x_v_cat] at ih ⊢; rw [ih]; split <;> rfl
  have hl := lv_entry (av.map (x_v ad)) (n := M.2.2.1) (by rw [hlen]; exact Nat.le_of_ble_eq_true hn)
  rw [lg_entry_eq]
  generalize (lg_sl (av.map (x_v ad)) ++ List.replicate (M.2.2.1 - (lg_sl (av.map (x_v ad))).length) Slot.unset).toArray = ls at hl ⊢
  refine k r σ' hor p l e s m _ below meth c D ad cI (va_A (x_w ad cI sh σ) s.heap.size) ⟨B.exec, B.bytes, B.returns, hml, ho ▸ hown, B.notSynchronized, fun w hw => hts w (List.mem_cons_of_mem _ hw)⟩ hK hD (fun q h => Or.inr h) hE s.heap [] ls hP va_S.rf ⟨hl.1, hl.2.1, fun i v hi => ?_⟩
  rw [← hL] at hi
  have hi2 : (x_ent av)[i]? = some (some v) := by
    by_cases hlt : i < (x_ent av).length
    · rwa [List.getElem?_append_left hlt] at hi
    · rw [List.getElem?_append_right (Nat.not_lt.mp hlt), List.getElem?_replicate] at hi
      split at hi <;> simp at hi
  have h3 := hl.2.2 _ (x_ent_args ad av 0 i v hi2)
  simpa using h3

theorem x_callS0i {y : MethodName} {M' : xM} {h' index : Nat} {oc : Option (Int32 × xSt)} {k : Int32 → xSt → Option (ρ × xSt)} (hd : decode M.2.1 pc = .ok (.invokestatic index, 3)) (hl : x_SL M.1 index y M' 0) (hc : CON κi y M' b h' sh [] σ oc) (hh : Nat.ble (h' + 1) h = true) (hw : Nat.ble ((S.map fun v => v.category).sum) 8 = true) (kk : ∀ (r : Int32) (σ1 : xSt), XP κ b M h sh (pc + 3) L (.int r :: S) σ1 (k r σ1)) : XP κ b M h sh pc L (S) σ (bnd oc k) := x_callS (av := []) hd hl hc hh rfl hw kk
theorem x_callS0v {y : MethodName} {M' : xM} {h' index : Nat} {oc : Option (Unit × xSt)} {k : Unit → xSt → Option (ρ × xSt)} (hd : decode M.2.1 pc = .ok (.invokestatic index, 3)) (hl : x_SL M.1 index y M' 0) (hc : CON κv y M' b h' sh [] σ oc) (hh : Nat.ble (h' + 1) h = true) (hw : Nat.ble ((S.map fun v => v.category).sum) 8 = true) (kk : ∀ (r : Unit) (σ1 : xSt), XP κ b M h sh (pc + 3) L S σ1 (k r σ1)) : XP κ b M h sh pc L (S) σ (bnd oc k) := x_callS (av := []) hd hl hc hh rfl hw kk
theorem x_callS0l {y : MethodName} {M' : xM} {h' index : Nat} {oc : Option (Int64 × xSt)} {k : Int64 → xSt → Option (ρ × xSt)} (hd : decode M.2.1 pc = .ok (.invokestatic index, 3)) (hl : x_SL M.1 index y M' 0) (hc : CON κl y M' b h' sh [] σ oc) (hh : Nat.ble (h' + 1) h = true) (hw : Nat.ble ((S.map fun v => v.category).sum) 8 = true) (kk : ∀ (r : Int64) (σ1 : xSt), XP κ b M h sh (pc + 3) L (.long r :: S) σ1 (k r σ1)) : XP κ b M h sh pc L (S) σ (bnd oc k) := x_callS (av := []) hd hl hc hh rfl hw kk
theorem x_callS0a {y : MethodName} {M' : xM} {h' index : Nat} {oc : Option (Nat × xSt)} {k : Nat → xSt → Option (ρ × xSt)} (hd : decode M.2.1 pc = .ok (.invokestatic index, 3)) (hl : x_SL M.1 index y M' 0) (hc : CON κa y M' b h' sh [] σ oc) (hh : Nat.ble (h' + 1) h = true) (hw : Nat.ble ((S.map fun v => v.category).sum) 8 = true) (kk : ∀ (r : Nat) (σ1 : xSt), XP κ b M h sh (pc + 3) L (.ref r :: S) σ1 (k r σ1)) : XP κ b M h sh pc L (S) σ (bnd oc k) := x_callS (av := []) hd hl hc hh rfl hw kk
theorem x_callS1i {y : MethodName} {M' : xM} {h' index : Nat} {a1 : Value} {oc : Option (Int32 × xSt)} {k : Int32 → xSt → Option (ρ × xSt)} (hd : decode M.2.1 pc = .ok (.invokestatic index, 3)) (hl : x_SL M.1 index y M' 1) (hc : CON κi y M' b h' sh [a1] σ oc) (hh : Nat.ble (h' + 1) h = true) (hw : Nat.ble ((S.map fun v => v.category).sum) 8 = true) (kk : ∀ (r : Int32) (σ1 : xSt), XP κ b M h sh (pc + 3) L (.int r :: S) σ1 (k r σ1)) : XP κ b M h sh pc L (a1 :: S) σ (bnd oc k) := x_callS (av := [a1]) hd hl hc hh rfl hw kk
theorem x_callS1v {y : MethodName} {M' : xM} {h' index : Nat} {a1 : Value} {oc : Option (Unit × xSt)} {k : Unit → xSt → Option (ρ × xSt)} (hd : decode M.2.1 pc = .ok (.invokestatic index, 3)) (hl : x_SL M.1 index y M' 1) (hc : CON κv y M' b h' sh [a1] σ oc) (hh : Nat.ble (h' + 1) h = true) (hw : Nat.ble ((S.map fun v => v.category).sum) 8 = true) (kk : ∀ (r : Unit) (σ1 : xSt), XP κ b M h sh (pc + 3) L S σ1 (k r σ1)) : XP κ b M h sh pc L (a1 :: S) σ (bnd oc k) := x_callS (av := [a1]) hd hl hc hh rfl hw kk
theorem x_callS1l {y : MethodName} {M' : xM} {h' index : Nat} {a1 : Value} {oc : Option (Int64 × xSt)} {k : Int64 → xSt → Option (ρ × xSt)} (hd : decode M.2.1 pc = .ok (.invokestatic index, 3)) (hl : x_SL M.1 index y M' 1) (hc : CON κl y M' b h' sh [a1] σ oc) (hh : Nat.ble (h' + 1) h = true) (hw : Nat.ble ((S.map fun v => v.category).sum) 8 = true) (kk : ∀ (r : Int64) (σ1 : xSt), XP κ b M h sh (pc + 3) L (.long r :: S) σ1 (k r σ1)) : XP κ b M h sh pc L (a1 :: S) σ (bnd oc k) := x_callS (av := [a1]) hd hl hc hh rfl hw kk
theorem x_callS1a {y : MethodName} {M' : xM} {h' index : Nat} {a1 : Value} {oc : Option (Nat × xSt)} {k : Nat → xSt → Option (ρ × xSt)} (hd : decode M.2.1 pc = .ok (.invokestatic index, 3)) (hl : x_SL M.1 index y M' 1) (hc : CON κa y M' b h' sh [a1] σ oc) (hh : Nat.ble (h' + 1) h = true) (hw : Nat.ble ((S.map fun v => v.category).sum) 8 = true) (kk : ∀ (r : Nat) (σ1 : xSt), XP κ b M h sh (pc + 3) L (.ref r :: S) σ1 (k r σ1)) : XP κ b M h sh pc L (a1 :: S) σ (bnd oc k) := x_callS (av := [a1]) hd hl hc hh rfl hw kk
theorem x_callS2i {y : MethodName} {M' : xM} {h' index : Nat} {a1 a2 : Value} {oc : Option (Int32 × xSt)} {k : Int32 → xSt → Option (ρ × xSt)} (hd : decode M.2.1 pc = .ok (.invokestatic index, 3)) (hl : x_SL M.1 index y M' 2) (hc : CON κi y M' b h' sh [a1, a2] σ oc) (hh : Nat.ble (h' + 1) h = true) (hw : Nat.ble ((S.map fun v => v.category).sum) 8 = true) (kk : ∀ (r : Int32) (σ1 : xSt), XP κ b M h sh (pc + 3) L (.int r :: S) σ1 (k r σ1)) : XP κ b M h sh pc L (a2 :: a1 :: S) σ (bnd oc k) := x_callS (av := [a1, a2]) hd hl hc hh rfl hw kk
theorem x_callS2v {y : MethodName} {M' : xM} {h' index : Nat} {a1 a2 : Value} {oc : Option (Unit × xSt)} {k : Unit → xSt → Option (ρ × xSt)} (hd : decode M.2.1 pc = .ok (.invokestatic index, 3)) (hl : x_SL M.1 index y M' 2) (hc : CON κv y M' b h' sh [a1, a2] σ oc) (hh : Nat.ble (h' + 1) h = true) (hw : Nat.ble ((S.map fun v => v.category).sum) 8 = true) (kk : ∀ (r : Unit) (σ1 : xSt), XP κ b M h sh (pc + 3) L S σ1 (k r σ1)) : XP κ b M h sh pc L (a2 :: a1 :: S) σ (bnd oc k) := x_callS (av := [a1, a2]) hd hl hc hh rfl hw kk
theorem x_callS2l {y : MethodName} {M' : xM} {h' index : Nat} {a1 a2 : Value} {oc : Option (Int64 × xSt)} {k : Int64 → xSt → Option (ρ × xSt)} (hd : decode M.2.1 pc = .ok (.invokestatic index, 3)) (hl : x_SL M.1 index y M' 2) (hc : CON κl y M' b h' sh [a1, a2] σ oc) (hh : Nat.ble (h' + 1) h = true) (hw : Nat.ble ((S.map fun v => v.category).sum) 8 = true) (kk : ∀ (r : Int64) (σ1 : xSt), XP κ b M h sh (pc + 3) L (.long r :: S) σ1 (k r σ1)) : XP κ b M h sh pc L (a2 :: a1 :: S) σ (bnd oc k) := x_callS (av := [a1, a2]) hd hl hc hh rfl hw kk
theorem x_callS2a {y : MethodName} {M' : xM} {h' index : Nat} {a1 a2 : Value} {oc : Option (Nat × xSt)} {k : Nat → xSt → Option (ρ × xSt)} (hd : decode M.2.1 pc = .ok (.invokestatic index, 3)) (hl : x_SL M.1 index y M' 2) (hc : CON κa y M' b h' sh [a1, a2] σ oc) (hh : Nat.ble (h' + 1) h = true) (hw : Nat.ble ((S.map fun v => v.category).sum) 8 = true) (kk : ∀ (r : Nat) (σ1 : xSt), XP κ b M h sh (pc + 3) L (.ref r :: S) σ1 (k r σ1)) : XP κ b M h sh pc L (a2 :: a1 :: S) σ (bnd oc k) := x_callS (av := [a1, a2]) hd hl hc hh rfl hw kk
theorem x_callS3i {y : MethodName} {M' : xM} {h' index : Nat} {a1 a2 a3 : Value} {oc : Option (Int32 × xSt)} {k : Int32 → xSt → Option (ρ × xSt)} (hd : decode M.2.1 pc = .ok (.invokestatic index, 3)) (hl : x_SL M.1 index y M' 3) (hc : CON κi y M' b h' sh [a1, a2, a3] σ oc) (hh : Nat.ble (h' + 1) h = true) (hw : Nat.ble ((S.map fun v => v.category).sum) 8 = true) (kk : ∀ (r : Int32) (σ1 : xSt), XP κ b M h sh (pc + 3) L (.int r :: S) σ1 (k r σ1)) : XP κ b M h sh pc L (a3 :: a2 :: a1 :: S) σ (bnd oc k) := x_callS (av := [a1, a2, a3]) hd hl hc hh rfl hw kk
theorem x_callS3v {y : MethodName} {M' : xM} {h' index : Nat} {a1 a2 a3 : Value} {oc : Option (Unit × xSt)} {k : Unit → xSt → Option (ρ × xSt)} (hd : decode M.2.1 pc = .ok (.invokestatic index, 3)) (hl : x_SL M.1 index y M' 3) (hc : CON κv y M' b h' sh [a1, a2, a3] σ oc) (hh : Nat.ble (h' + 1) h = true) (hw : Nat.ble ((S.map fun v => v.category).sum) 8 = true) (kk : ∀ (r : Unit) (σ1 : xSt), XP κ b M h sh (pc + 3) L S σ1 (k r σ1)) : XP κ b M h sh pc L (a3 :: a2 :: a1 :: S) σ (bnd oc k) := x_callS (av := [a1, a2, a3]) hd hl hc hh rfl hw kk
theorem x_callS3l {y : MethodName} {M' : xM} {h' index : Nat} {a1 a2 a3 : Value} {oc : Option (Int64 × xSt)} {k : Int64 → xSt → Option (ρ × xSt)} (hd : decode M.2.1 pc = .ok (.invokestatic index, 3)) (hl : x_SL M.1 index y M' 3) (hc : CON κl y M' b h' sh [a1, a2, a3] σ oc) (hh : Nat.ble (h' + 1) h = true) (hw : Nat.ble ((S.map fun v => v.category).sum) 8 = true) (kk : ∀ (r : Int64) (σ1 : xSt), XP κ b M h sh (pc + 3) L (.long r :: S) σ1 (k r σ1)) : XP κ b M h sh pc L (a3 :: a2 :: a1 :: S) σ (bnd oc k) := x_callS (av := [a1, a2, a3]) hd hl hc hh rfl hw kk
theorem x_callS3a {y : MethodName} {M' : xM} {h' index : Nat} {a1 a2 a3 : Value} {oc : Option (Nat × xSt)} {k : Nat → xSt → Option (ρ × xSt)} (hd : decode M.2.1 pc = .ok (.invokestatic index, 3)) (hl : x_SL M.1 index y M' 3) (hc : CON κa y M' b h' sh [a1, a2, a3] σ oc) (hh : Nat.ble (h' + 1) h = true) (hw : Nat.ble ((S.map fun v => v.category).sum) 8 = true) (kk : ∀ (r : Nat) (σ1 : xSt), XP κ b M h sh (pc + 3) L (.ref r :: S) σ1 (k r σ1)) : XP κ b M h sh pc L (a3 :: a2 :: a1 :: S) σ (bnd oc k) := x_callS (av := [a1, a2, a3]) hd hl hc hh rfl hw kk
theorem x_callS4i {y : MethodName} {M' : xM} {h' index : Nat} {a1 a2 a3 a4 : Value} {oc : Option (Int32 × xSt)} {k : Int32 → xSt → Option (ρ × xSt)} (hd : decode M.2.1 pc = .ok (.invokestatic index, 3)) (hl : x_SL M.1 index y M' 4) (hc : CON κi y M' b h' sh [a1, a2, a3, a4] σ oc) (hh : Nat.ble (h' + 1) h = true) (hw : Nat.ble ((S.map fun v => v.category).sum) 8 = true) (kk : ∀ (r : Int32) (σ1 : xSt), XP κ b M h sh (pc + 3) L (.int r :: S) σ1 (k r σ1)) : XP κ b M h sh pc L (a4 :: a3 :: a2 :: a1 :: S) σ (bnd oc k) := x_callS (av := [a1, a2, a3, a4]) hd hl hc hh rfl hw kk
theorem x_callS4v {y : MethodName} {M' : xM} {h' index : Nat} {a1 a2 a3 a4 : Value} {oc : Option (Unit × xSt)} {k : Unit → xSt → Option (ρ × xSt)} (hd : decode M.2.1 pc = .ok (.invokestatic index, 3)) (hl : x_SL M.1 index y M' 4) (hc : CON κv y M' b h' sh [a1, a2, a3, a4] σ oc) (hh : Nat.ble (h' + 1) h = true) (hw : Nat.ble ((S.map fun v => v.category).sum) 8 = true) (kk : ∀ (r : Unit) (σ1 : xSt), XP κ b M h sh (pc + 3) L S σ1 (k r σ1)) : XP κ b M h sh pc L (a4 :: a3 :: a2 :: a1 :: S) σ (bnd oc k) := x_callS (av := [a1, a2, a3, a4]) hd hl hc hh rfl hw kk
theorem x_callS5i {y : MethodName} {M' : xM} {h' index : Nat} {a1 a2 a3 a4 a5 : Value} {oc : Option (Int32 × xSt)} {k : Int32 → xSt → Option (ρ × xSt)} (hd : decode M.2.1 pc = .ok (.invokestatic index, 3)) (hl : x_SL M.1 index y M' 5) (hc : CON κi y M' b h' sh [a1, a2, a3, a4, a5] σ oc) (hh : Nat.ble (h' + 1) h = true) (hw : Nat.ble ((S.map fun v => v.category).sum) 8 = true) (kk : ∀ (r : Int32) (σ1 : xSt), XP κ b M h sh (pc + 3) L (.int r :: S) σ1 (k r σ1)) : XP κ b M h sh pc L (a5 :: a4 :: a3 :: a2 :: a1 :: S) σ (bnd oc k) := x_callS (av := [a1, a2, a3, a4, a5]) hd hl hc hh rfl hw kk
theorem x_callS5v {y : MethodName} {M' : xM} {h' index : Nat} {a1 a2 a3 a4 a5 : Value} {oc : Option (Unit × xSt)} {k : Unit → xSt → Option (ρ × xSt)} (hd : decode M.2.1 pc = .ok (.invokestatic index, 3)) (hl : x_SL M.1 index y M' 5) (hc : CON κv y M' b h' sh [a1, a2, a3, a4, a5] σ oc) (hh : Nat.ble (h' + 1) h = true) (hw : Nat.ble ((S.map fun v => v.category).sum) 8 = true) (kk : ∀ (r : Unit) (σ1 : xSt), XP κ b M h sh (pc + 3) L S σ1 (k r σ1)) : XP κ b M h sh pc L (a5 :: a4 :: a3 :: a2 :: a1 :: S) σ (bnd oc k) := x_callS (av := [a1, a2, a3, a4, a5]) hd hl hc hh rfl hw kk
theorem x_callN1i {y : MethodName} {M' : xM} {h' index : Nat} {a1 : Value} {oc : Option (Int32 × xSt)} {k : Int32 → xSt → Option (ρ × xSt)} (hd : decode M.2.1 pc = .ok (.invokestatic index, 3)) (hl : x_SN M.1 index y M' 1) (hl2 : ∀ host : String, Cond.methodLinkNest M.1 index y host ∈ lw_tbl → Cond.methodLinkNest M.1 index y host ∈ xT) (hc : CON κi y M' b h' sh [a1] σ oc) (hh : Nat.ble (h' + 1) h = true) (hw : Nat.ble ((S.map fun v => v.category).sum) 8 = true) (kk : ∀ (r : Int32) (σ1 : xSt), XP κ b M h sh (pc + 3) L (.int r :: S) σ1 (k r σ1)) : XP κ b M h sh pc L (a1 :: S) σ (bnd oc k) := x_callN (av := [a1]) hd hl hl2 hc hh rfl hw kk
theorem x_callV0i {y : MethodName} {M' : xM} {h' index : Nat} {i ci : Nat} {q : vw_C} {fs : List (Option Nat × Bool)} {oc : Option (Int32 × xSt)} {k : Int32 → xSt → Option (ρ × xSt)} (hd : decode M.2.1 pc = .ok (.invokevirtual index, 3)) (hl : x_VL M.1 index y M' 0) (hc : CON κi y M' b h' sh [.ref i] σ oc) (he : sh[i]? = some (.inr (ci, fs))) (hcl : CL[ci]? = some q) (hq : q.1 = y.cls) (hh : Nat.ble (h' + 1) h = true) (hw : Nat.ble ((S.map fun v => v.category).sum) 8 = true) (kk : ∀ (r : Int32) (σ1 : xSt), XP κ b M h sh (pc + 3) L (.int r :: S) σ1 (k r σ1)) : XP κ b M h sh pc L (.ref i :: S) σ (bnd oc k) := x_callV (av := []) hd hl hc he hcl hq hh rfl hw kk
theorem x_callV0v {y : MethodName} {M' : xM} {h' index : Nat} {i ci : Nat} {q : vw_C} {fs : List (Option Nat × Bool)} {oc : Option (Unit × xSt)} {k : Unit → xSt → Option (ρ × xSt)} (hd : decode M.2.1 pc = .ok (.invokevirtual index, 3)) (hl : x_VL M.1 index y M' 0) (hc : CON κv y M' b h' sh [.ref i] σ oc) (he : sh[i]? = some (.inr (ci, fs))) (hcl : CL[ci]? = some q) (hq : q.1 = y.cls) (hh : Nat.ble (h' + 1) h = true) (hw : Nat.ble ((S.map fun v => v.category).sum) 8 = true) (kk : ∀ (r : Unit) (σ1 : xSt), XP κ b M h sh (pc + 3) L S σ1 (k r σ1)) : XP κ b M h sh pc L (.ref i :: S) σ (bnd oc k) := x_callV (av := []) hd hl hc he hcl hq hh rfl hw kk
theorem x_callV0l {y : MethodName} {M' : xM} {h' index : Nat} {i ci : Nat} {q : vw_C} {fs : List (Option Nat × Bool)} {oc : Option (Int64 × xSt)} {k : Int64 → xSt → Option (ρ × xSt)} (hd : decode M.2.1 pc = .ok (.invokevirtual index, 3)) (hl : x_VL M.1 index y M' 0) (hc : CON κl y M' b h' sh [.ref i] σ oc) (he : sh[i]? = some (.inr (ci, fs))) (hcl : CL[ci]? = some q) (hq : q.1 = y.cls) (hh : Nat.ble (h' + 1) h = true) (hw : Nat.ble ((S.map fun v => v.category).sum) 8 = true) (kk : ∀ (r : Int64) (σ1 : xSt), XP κ b M h sh (pc + 3) L (.long r :: S) σ1 (k r σ1)) : XP κ b M h sh pc L (.ref i :: S) σ (bnd oc k) := x_callV (av := []) hd hl hc he hcl hq hh rfl hw kk
theorem x_callV0a {y : MethodName} {M' : xM} {h' index : Nat} {i ci : Nat} {q : vw_C} {fs : List (Option Nat × Bool)} {oc : Option (Nat × xSt)} {k : Nat → xSt → Option (ρ × xSt)} (hd : decode M.2.1 pc = .ok (.invokevirtual index, 3)) (hl : x_VL M.1 index y M' 0) (hc : CON κa y M' b h' sh [.ref i] σ oc) (he : sh[i]? = some (.inr (ci, fs))) (hcl : CL[ci]? = some q) (hq : q.1 = y.cls) (hh : Nat.ble (h' + 1) h = true) (hw : Nat.ble ((S.map fun v => v.category).sum) 8 = true) (kk : ∀ (r : Nat) (σ1 : xSt), XP κ b M h sh (pc + 3) L (.ref r :: S) σ1 (k r σ1)) : XP κ b M h sh pc L (.ref i :: S) σ (bnd oc k) := x_callV (av := []) hd hl hc he hcl hq hh rfl hw kk
theorem x_callV1i {y : MethodName} {M' : xM} {h' index : Nat} {i ci : Nat} {q : vw_C} {fs : List (Option Nat × Bool)} {a1 : Value} {oc : Option (Int32 × xSt)} {k : Int32 → xSt → Option (ρ × xSt)} (hd : decode M.2.1 pc = .ok (.invokevirtual index, 3)) (hl : x_VL M.1 index y M' 1) (hc : CON κi y M' b h' sh [.ref i, a1] σ oc) (he : sh[i]? = some (.inr (ci, fs))) (hcl : CL[ci]? = some q) (hq : q.1 = y.cls) (hh : Nat.ble (h' + 1) h = true) (hw : Nat.ble ((S.map fun v => v.category).sum) 8 = true) (kk : ∀ (r : Int32) (σ1 : xSt), XP κ b M h sh (pc + 3) L (.int r :: S) σ1 (k r σ1)) : XP κ b M h sh pc L (a1 :: .ref i :: S) σ (bnd oc k) := x_callV (av := [a1]) hd hl hc he hcl hq hh rfl hw kk
theorem x_callV1v {y : MethodName} {M' : xM} {h' index : Nat} {i ci : Nat} {q : vw_C} {fs : List (Option Nat × Bool)} {a1 : Value} {oc : Option (Unit × xSt)} {k : Unit → xSt → Option (ρ × xSt)} (hd : decode M.2.1 pc = .ok (.invokevirtual index, 3)) (hl : x_VL M.1 index y M' 1) (hc : CON κv y M' b h' sh [.ref i, a1] σ oc) (he : sh[i]? = some (.inr (ci, fs))) (hcl : CL[ci]? = some q) (hq : q.1 = y.cls) (hh : Nat.ble (h' + 1) h = true) (hw : Nat.ble ((S.map fun v => v.category).sum) 8 = true) (kk : ∀ (r : Unit) (σ1 : xSt), XP κ b M h sh (pc + 3) L S σ1 (k r σ1)) : XP κ b M h sh pc L (a1 :: .ref i :: S) σ (bnd oc k) := x_callV (av := [a1]) hd hl hc he hcl hq hh rfl hw kk
theorem x_callV1l {y : MethodName} {M' : xM} {h' index : Nat} {i ci : Nat} {q : vw_C} {fs : List (Option Nat × Bool)} {a1 : Value} {oc : Option (Int64 × xSt)} {k : Int64 → xSt → Option (ρ × xSt)} (hd : decode M.2.1 pc = .ok (.invokevirtual index, 3)) (hl : x_VL M.1 index y M' 1) (hc : CON κl y M' b h' sh [.ref i, a1] σ oc) (he : sh[i]? = some (.inr (ci, fs))) (hcl : CL[ci]? = some q) (hq : q.1 = y.cls) (hh : Nat.ble (h' + 1) h = true) (hw : Nat.ble ((S.map fun v => v.category).sum) 8 = true) (kk : ∀ (r : Int64) (σ1 : xSt), XP κ b M h sh (pc + 3) L (.long r :: S) σ1 (k r σ1)) : XP κ b M h sh pc L (a1 :: .ref i :: S) σ (bnd oc k) := x_callV (av := [a1]) hd hl hc he hcl hq hh rfl hw kk
theorem x_callV1a {y : MethodName} {M' : xM} {h' index : Nat} {i ci : Nat} {q : vw_C} {fs : List (Option Nat × Bool)} {a1 : Value} {oc : Option (Nat × xSt)} {k : Nat → xSt → Option (ρ × xSt)} (hd : decode M.2.1 pc = .ok (.invokevirtual index, 3)) (hl : x_VL M.1 index y M' 1) (hc : CON κa y M' b h' sh [.ref i, a1] σ oc) (he : sh[i]? = some (.inr (ci, fs))) (hcl : CL[ci]? = some q) (hq : q.1 = y.cls) (hh : Nat.ble (h' + 1) h = true) (hw : Nat.ble ((S.map fun v => v.category).sum) 8 = true) (kk : ∀ (r : Nat) (σ1 : xSt), XP κ b M h sh (pc + 3) L (.ref r :: S) σ1 (k r σ1)) : XP κ b M h sh pc L (a1 :: .ref i :: S) σ (bnd oc k) := x_callV (av := [a1]) hd hl hc he hcl hq hh rfl hw kk
theorem x_callV2i {y : MethodName} {M' : xM} {h' index : Nat} {i ci : Nat} {q : vw_C} {fs : List (Option Nat × Bool)} {a1 a2 : Value} {oc : Option (Int32 × xSt)} {k : Int32 → xSt → Option (ρ × xSt)} (hd : decode M.2.1 pc = .ok (.invokevirtual index, 3)) (hl : x_VL M.1 index y M' 2) (hc : CON κi y M' b h' sh [.ref i, a1, a2] σ oc) (he : sh[i]? = some (.inr (ci, fs))) (hcl : CL[ci]? = some q) (hq : q.1 = y.cls) (hh : Nat.ble (h' + 1) h = true) (hw : Nat.ble ((S.map fun v => v.category).sum) 8 = true) (kk : ∀ (r : Int32) (σ1 : xSt), XP κ b M h sh (pc + 3) L (.int r :: S) σ1 (k r σ1)) : XP κ b M h sh pc L (a2 :: a1 :: .ref i :: S) σ (bnd oc k) := x_callV (av := [a1, a2]) hd hl hc he hcl hq hh rfl hw kk
theorem x_callV2v {y : MethodName} {M' : xM} {h' index : Nat} {i ci : Nat} {q : vw_C} {fs : List (Option Nat × Bool)} {a1 a2 : Value} {oc : Option (Unit × xSt)} {k : Unit → xSt → Option (ρ × xSt)} (hd : decode M.2.1 pc = .ok (.invokevirtual index, 3)) (hl : x_VL M.1 index y M' 2) (hc : CON κv y M' b h' sh [.ref i, a1, a2] σ oc) (he : sh[i]? = some (.inr (ci, fs))) (hcl : CL[ci]? = some q) (hq : q.1 = y.cls) (hh : Nat.ble (h' + 1) h = true) (hw : Nat.ble ((S.map fun v => v.category).sum) 8 = true) (kk : ∀ (r : Unit) (σ1 : xSt), XP κ b M h sh (pc + 3) L S σ1 (k r σ1)) : XP κ b M h sh pc L (a2 :: a1 :: .ref i :: S) σ (bnd oc k) := x_callV (av := [a1, a2]) hd hl hc he hcl hq hh rfl hw kk
theorem x_callV2l {y : MethodName} {M' : xM} {h' index : Nat} {i ci : Nat} {q : vw_C} {fs : List (Option Nat × Bool)} {a1 a2 : Value} {oc : Option (Int64 × xSt)} {k : Int64 → xSt → Option (ρ × xSt)} (hd : decode M.2.1 pc = .ok (.invokevirtual index, 3)) (hl : x_VL M.1 index y M' 2) (hc : CON κl y M' b h' sh [.ref i, a1, a2] σ oc) (he : sh[i]? = some (.inr (ci, fs))) (hcl : CL[ci]? = some q) (hq : q.1 = y.cls) (hh : Nat.ble (h' + 1) h = true) (hw : Nat.ble ((S.map fun v => v.category).sum) 8 = true) (kk : ∀ (r : Int64) (σ1 : xSt), XP κ b M h sh (pc + 3) L (.long r :: S) σ1 (k r σ1)) : XP κ b M h sh pc L (a2 :: a1 :: .ref i :: S) σ (bnd oc k) := x_callV (av := [a1, a2]) hd hl hc he hcl hq hh rfl hw kk
theorem x_callV2a {y : MethodName} {M' : xM} {h' index : Nat} {i ci : Nat} {q : vw_C} {fs : List (Option Nat × Bool)} {a1 a2 : Value} {oc : Option (Nat × xSt)} {k : Nat → xSt → Option (ρ × xSt)} (hd : decode M.2.1 pc = .ok (.invokevirtual index, 3)) (hl : x_VL M.1 index y M' 2) (hc : CON κa y M' b h' sh [.ref i, a1, a2] σ oc) (he : sh[i]? = some (.inr (ci, fs))) (hcl : CL[ci]? = some q) (hq : q.1 = y.cls) (hh : Nat.ble (h' + 1) h = true) (hw : Nat.ble ((S.map fun v => v.category).sum) 8 = true) (kk : ∀ (r : Nat) (σ1 : xSt), XP κ b M h sh (pc + 3) L (.ref r :: S) σ1 (k r σ1)) : XP κ b M h sh pc L (a2 :: a1 :: .ref i :: S) σ (bnd oc k) := x_callV (av := [a1, a2]) hd hl hc he hcl hq hh rfl hw kk
theorem x_callV3i {y : MethodName} {M' : xM} {h' index : Nat} {i ci : Nat} {q : vw_C} {fs : List (Option Nat × Bool)} {a1 a2 a3 : Value} {oc : Option (Int32 × xSt)} {k : Int32 → xSt → Option (ρ × xSt)} (hd : decode M.2.1 pc = .ok (.invokevirtual index, 3)) (hl : x_VL M.1 index y M' 3) (hc : CON κi y M' b h' sh [.ref i, a1, a2, a3] σ oc) (he : sh[i]? = some (.inr (ci, fs))) (hcl : CL[ci]? = some q) (hq : q.1 = y.cls) (hh : Nat.ble (h' + 1) h = true) (hw : Nat.ble ((S.map fun v => v.category).sum) 8 = true) (kk : ∀ (r : Int32) (σ1 : xSt), XP κ b M h sh (pc + 3) L (.int r :: S) σ1 (k r σ1)) : XP κ b M h sh pc L (a3 :: a2 :: a1 :: .ref i :: S) σ (bnd oc k) := x_callV (av := [a1, a2, a3]) hd hl hc he hcl hq hh rfl hw kk
theorem x_callV3v {y : MethodName} {M' : xM} {h' index : Nat} {i ci : Nat} {q : vw_C} {fs : List (Option Nat × Bool)} {a1 a2 a3 : Value} {oc : Option (Unit × xSt)} {k : Unit → xSt → Option (ρ × xSt)} (hd : decode M.2.1 pc = .ok (.invokevirtual index, 3)) (hl : x_VL M.1 index y M' 3) (hc : CON κv y M' b h' sh [.ref i, a1, a2, a3] σ oc) (he : sh[i]? = some (.inr (ci, fs))) (hcl : CL[ci]? = some q) (hq : q.1 = y.cls) (hh : Nat.ble (h' + 1) h = true) (hw : Nat.ble ((S.map fun v => v.category).sum) 8 = true) (kk : ∀ (r : Unit) (σ1 : xSt), XP κ b M h sh (pc + 3) L S σ1 (k r σ1)) : XP κ b M h sh pc L (a3 :: a2 :: a1 :: .ref i :: S) σ (bnd oc k) := x_callV (av := [a1, a2, a3]) hd hl hc he hcl hq hh rfl hw kk
theorem x_callV3l {y : MethodName} {M' : xM} {h' index : Nat} {i ci : Nat} {q : vw_C} {fs : List (Option Nat × Bool)} {a1 a2 a3 : Value} {oc : Option (Int64 × xSt)} {k : Int64 → xSt → Option (ρ × xSt)} (hd : decode M.2.1 pc = .ok (.invokevirtual index, 3)) (hl : x_VL M.1 index y M' 3) (hc : CON κl y M' b h' sh [.ref i, a1, a2, a3] σ oc) (he : sh[i]? = some (.inr (ci, fs))) (hcl : CL[ci]? = some q) (hq : q.1 = y.cls) (hh : Nat.ble (h' + 1) h = true) (hw : Nat.ble ((S.map fun v => v.category).sum) 8 = true) (kk : ∀ (r : Int64) (σ1 : xSt), XP κ b M h sh (pc + 3) L (.long r :: S) σ1 (k r σ1)) : XP κ b M h sh pc L (a3 :: a2 :: a1 :: .ref i :: S) σ (bnd oc k) := x_callV (av := [a1, a2, a3]) hd hl hc he hcl hq hh rfl hw kk
theorem x_callV3a {y : MethodName} {M' : xM} {h' index : Nat} {i ci : Nat} {q : vw_C} {fs : List (Option Nat × Bool)} {a1 a2 a3 : Value} {oc : Option (Nat × xSt)} {k : Nat → xSt → Option (ρ × xSt)} (hd : decode M.2.1 pc = .ok (.invokevirtual index, 3)) (hl : x_VL M.1 index y M' 3) (hc : CON κa y M' b h' sh [.ref i, a1, a2, a3] σ oc) (he : sh[i]? = some (.inr (ci, fs))) (hcl : CL[ci]? = some q) (hq : q.1 = y.cls) (hh : Nat.ble (h' + 1) h = true) (hw : Nat.ble ((S.map fun v => v.category).sum) 8 = true) (kk : ∀ (r : Nat) (σ1 : xSt), XP κ b M h sh (pc + 3) L (.ref r :: S) σ1 (k r σ1)) : XP κ b M h sh pc L (a3 :: a2 :: a1 :: .ref i :: S) σ (bnd oc k) := x_callV (av := [a1, a2, a3]) hd hl hc he hcl hq hh rfl hw kk
theorem x_callV4i {y : MethodName} {M' : xM} {h' index : Nat} {i ci : Nat} {q : vw_C} {fs : List (Option Nat × Bool)} {a1 a2 a3 a4 : Value} {oc : Option (Int32 × xSt)} {k : Int32 → xSt → Option (ρ × xSt)} (hd : decode M.2.1 pc = .ok (.invokevirtual index, 3)) (hl : x_VL M.1 index y M' 4) (hc : CON κi y M' b h' sh [.ref i, a1, a2, a3, a4] σ oc) (he : sh[i]? = some (.inr (ci, fs))) (hcl : CL[ci]? = some q) (hq : q.1 = y.cls) (hh : Nat.ble (h' + 1) h = true) (hw : Nat.ble ((S.map fun v => v.category).sum) 8 = true) (kk : ∀ (r : Int32) (σ1 : xSt), XP κ b M h sh (pc + 3) L (.int r :: S) σ1 (k r σ1)) : XP κ b M h sh pc L (a4 :: a3 :: a2 :: a1 :: .ref i :: S) σ (bnd oc k) := x_callV (av := [a1, a2, a3, a4]) hd hl hc he hcl hq hh rfl hw kk
theorem x_callV4v {y : MethodName} {M' : xM} {h' index : Nat} {i ci : Nat} {q : vw_C} {fs : List (Option Nat × Bool)} {a1 a2 a3 a4 : Value} {oc : Option (Unit × xSt)} {k : Unit → xSt → Option (ρ × xSt)} (hd : decode M.2.1 pc = .ok (.invokevirtual index, 3)) (hl : x_VL M.1 index y M' 4) (hc : CON κv y M' b h' sh [.ref i, a1, a2, a3, a4] σ oc) (he : sh[i]? = some (.inr (ci, fs))) (hcl : CL[ci]? = some q) (hq : q.1 = y.cls) (hh : Nat.ble (h' + 1) h = true) (hw : Nat.ble ((S.map fun v => v.category).sum) 8 = true) (kk : ∀ (r : Unit) (σ1 : xSt), XP κ b M h sh (pc + 3) L S σ1 (k r σ1)) : XP κ b M h sh pc L (a4 :: a3 :: a2 :: a1 :: .ref i :: S) σ (bnd oc k) := x_callV (av := [a1, a2, a3, a4]) hd hl hc he hcl hq hh rfl hw kk
theorem x_callV5i {y : MethodName} {M' : xM} {h' index : Nat} {i ci : Nat} {q : vw_C} {fs : List (Option Nat × Bool)} {a1 a2 a3 a4 a5 : Value} {oc : Option (Int32 × xSt)} {k : Int32 → xSt → Option (ρ × xSt)} (hd : decode M.2.1 pc = .ok (.invokevirtual index, 3)) (hl : x_VL M.1 index y M' 5) (hc : CON κi y M' b h' sh [.ref i, a1, a2, a3, a4, a5] σ oc) (he : sh[i]? = some (.inr (ci, fs))) (hcl : CL[ci]? = some q) (hq : q.1 = y.cls) (hh : Nat.ble (h' + 1) h = true) (hw : Nat.ble ((S.map fun v => v.category).sum) 8 = true) (kk : ∀ (r : Int32) (σ1 : xSt), XP κ b M h sh (pc + 3) L (.int r :: S) σ1 (k r σ1)) : XP κ b M h sh pc L (a5 :: a4 :: a3 :: a2 :: a1 :: .ref i :: S) σ (bnd oc k) := x_callV (av := [a1, a2, a3, a4, a5]) hd hl hc he hcl hq hh rfl hw kk
theorem x_callV5v {y : MethodName} {M' : xM} {h' index : Nat} {i ci : Nat} {q : vw_C} {fs : List (Option Nat × Bool)} {a1 a2 a3 a4 a5 : Value} {oc : Option (Unit × xSt)} {k : Unit → xSt → Option (ρ × xSt)} (hd : decode M.2.1 pc = .ok (.invokevirtual index, 3)) (hl : x_VL M.1 index y M' 5) (hc : CON κv y M' b h' sh [.ref i, a1, a2, a3, a4, a5] σ oc) (he : sh[i]? = some (.inr (ci, fs))) (hcl : CL[ci]? = some q) (hq : q.1 = y.cls) (hh : Nat.ble (h' + 1) h = true) (hw : Nat.ble ((S.map fun v => v.category).sum) 8 = true) (kk : ∀ (r : Unit) (σ1 : xSt), XP κ b M h sh (pc + 3) L S σ1 (k r σ1)) : XP κ b M h sh pc L (a5 :: a4 :: a3 :: a2 :: a1 :: .ref i :: S) σ (bnd oc k) := x_callV (av := [a1, a2, a3, a4, a5]) hd hl hc he hcl hq hh rfl hw kk
end XR
end
