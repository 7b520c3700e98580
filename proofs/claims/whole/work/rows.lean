section
-- ===== PART A: goes FIRST, ahead of the names: the tables' words, and 'selects' of the private methods out of them =====
/-- a private method of a class that the tables say can be made, by its rows of tables_1 -/
def lw_okq (q : MethodName × Nat) : Prop := (q.1.cls ≠ "java/lang/invoke/MethodHandle" ∧ q.1.cls ≠ "java/lang/invoke/VarHandle") ∧ Cond.instantiable q.1.cls q.2 ∈ tables_1 ∧ Cond.privateMethod q.1 ∈ tables_1 ∧ Cond.instanceMethod q.1 ∈ tables_1
theorem lw_p0 : lw_okq (⟨"ChannelTracks$Text", "fitsChannel", "(II)Z"⟩, 2) := ⟨⟨by decide +kernel, by decide +kernel⟩, List.mem_of_getElem? (i := 24) (by decide +kernel), List.mem_of_getElem? (i := 212) (by decide +kernel), List.mem_of_getElem? (i := 213) (by decide +kernel)⟩
theorem lw_p1 : lw_okq (⟨"ChannelTracks$Text", "agreement", "(Ljava/lang/String;)I"⟩, 2) := ⟨⟨by decide +kernel, by decide +kernel⟩, List.mem_of_getElem? (i := 24) (by decide +kernel), List.mem_of_getElem? (i := 235) (by decide +kernel), List.mem_of_getElem? (i := 236) (by decide +kernel)⟩
theorem lw_p2 : lw_okq (⟨"ChannelTracks", "derive", "()V"⟩, 10) := ⟨⟨by decide +kernel, by decide +kernel⟩, List.mem_of_getElem? (i := 16) (by decide +kernel), List.mem_of_getElem? (i := 314) (by decide +kernel), List.mem_of_getElem? (i := 315) (by decide +kernel)⟩
theorem lw_p3 : lw_okq (⟨"ChannelTracks$Segments", "addPieces", "(II)V"⟩, 10) := ⟨⟨by decide +kernel, by decide +kernel⟩, List.mem_of_getElem? (i := 56) (by decide +kernel), List.mem_of_getElem? (i := 330) (by decide +kernel), List.mem_of_getElem? (i := 331) (by decide +kernel)⟩
theorem lw_p4 : lw_okq (⟨"ChannelTracks$Segments", "add", "(IIII)V"⟩, 10) := ⟨⟨by decide +kernel, by decide +kernel⟩, List.mem_of_getElem? (i := 56) (by decide +kernel), List.mem_of_getElem? (i := 334) (by decide +kernel), List.mem_of_getElem? (i := 335) (by decide +kernel)⟩
theorem lw_p5 : lw_okq (⟨"ChannelTracks$Segments", "constrain", "(III)V"⟩, 10) := ⟨⟨by decide +kernel, by decide +kernel⟩, List.mem_of_getElem? (i := 56) (by decide +kernel), List.mem_of_getElem? (i := 351) (by decide +kernel), List.mem_of_getElem? (i := 352) (by decide +kernel)⟩
theorem lw_p6 : lw_okq (⟨"ChannelTracks$Segments", "rank", "([I[I)I"⟩, 10) := ⟨⟨by decide +kernel, by decide +kernel⟩, List.mem_of_getElem? (i := 56) (by decide +kernel), List.mem_of_getElem? (i := 359) (by decide +kernel), List.mem_of_getElem? (i := 360) (by decide +kernel)⟩
theorem lw_p7 : lw_okq (⟨"ChannelTracks$Segments", "freeOf", "([II)I"⟩, 10) := ⟨⟨by decide +kernel, by decide +kernel⟩, List.mem_of_getElem? (i := 56) (by decide +kernel), List.mem_of_getElem? (i := 363) (by decide +kernel), List.mem_of_getElem? (i := 364) (by decide +kernel)⟩
theorem lw_p8 : lw_okq (⟨"ChannelTracks$Segments", "giveRank", "([III)V"⟩, 10) := ⟨⟨by decide +kernel, by decide +kernel⟩, List.mem_of_getElem? (i := 56) (by decide +kernel), List.mem_of_getElem? (i := 367) (by decide +kernel), List.mem_of_getElem? (i := 368) (by decide +kernel)⟩
theorem lw_p9 : lw_okq (⟨"ChannelTracks$Segments", "belowAny", "(I)I"⟩, 10) := ⟨⟨by decide +kernel, by decide +kernel⟩, List.mem_of_getElem? (i := 56) (by decide +kernel), List.mem_of_getElem? (i := 386) (by decide +kernel), List.mem_of_getElem? (i := 387) (by decide +kernel)⟩
theorem lw_p10 : lw_okq (⟨"ChannelTracks$Zones", "isNewZone", "(II)Z"⟩, 4) := ⟨⟨by decide +kernel, by decide +kernel⟩, List.mem_of_getElem? (i := 124) (by decide +kernel), List.mem_of_getElem? (i := 410) (by decide +kernel), List.mem_of_getElem? (i := 411) (by decide +kernel)⟩
theorem lw_p11 : lw_okq (⟨"ChannelTracks", "hasChannel", "()Z"⟩, 10) := ⟨⟨by decide +kernel, by decide +kernel⟩, List.mem_of_getElem? (i := 16) (by decide +kernel), List.mem_of_getElem? (i := 431) (by decide +kernel), List.mem_of_getElem? (i := 432) (by decide +kernel)⟩
theorem lw_p12 : lw_okq (⟨"ChannelTracks$Plan", "fillTrack", "(LChannelTracks$Segments;I)V"⟩, 1) := ⟨⟨by decide +kernel, by decide +kernel⟩, List.mem_of_getElem? (i := 146) (by decide +kernel), List.mem_of_getElem? (i := 440) (by decide +kernel), List.mem_of_getElem? (i := 441) (by decide +kernel)⟩
theorem lw_p13 : lw_okq (⟨"ChannelTracks$Plan", "leftmost", "(LChannelTracks$Segments;I)I"⟩, 1) := ⟨⟨by decide +kernel, by decide +kernel⟩, List.mem_of_getElem? (i := 146) (by decide +kernel), List.mem_of_getElem? (i := 444) (by decide +kernel), List.mem_of_getElem? (i := 445) (by decide +kernel)⟩
theorem lw_p14 : lw_okq (⟨"ChannelTracks$Plan", "isFree", "(LChannelTracks$Segments;II)Z"⟩, 1) := ⟨⟨by decide +kernel, by decide +kernel⟩, List.mem_of_getElem? (i := 146) (by decide +kernel), List.mem_of_getElem? (i := 448) (by decide +kernel), List.mem_of_getElem? (i := 449) (by decide +kernel)⟩
theorem lw_p15 : lw_okq (⟨"ChannelTracks$Plan", "placeFrom", "(LChannelTracks$Segments;II)Z"⟩, 1) := ⟨⟨by decide +kernel, by decide +kernel⟩, List.mem_of_getElem? (i := 146) (by decide +kernel), List.mem_of_getElem? (i := 471) (by decide +kernel), List.mem_of_getElem? (i := 472) (by decide +kernel)⟩
def lw_privs_1 : List (MethodName × Nat) := [(⟨"ChannelTracks$Text", "fitsChannel", "(II)Z"⟩, 2), (⟨"ChannelTracks$Text", "agreement", "(Ljava/lang/String;)I"⟩, 2), (⟨"ChannelTracks", "derive", "()V"⟩, 10), (⟨"ChannelTracks$Segments", "addPieces", "(II)V"⟩, 10), (⟨"ChannelTracks$Segments", "add", "(IIII)V"⟩, 10), (⟨"ChannelTracks$Segments", "constrain", "(III)V"⟩, 10), (⟨"ChannelTracks$Segments", "rank", "([I[I)I"⟩, 10), (⟨"ChannelTracks$Segments", "freeOf", "([II)I"⟩, 10), (⟨"ChannelTracks$Segments", "giveRank", "([III)V"⟩, 10), (⟨"ChannelTracks$Segments", "belowAny", "(I)I"⟩, 10), (⟨"ChannelTracks$Zones", "isNewZone", "(II)Z"⟩, 4), (⟨"ChannelTracks", "hasChannel", "()Z"⟩, 10), (⟨"ChannelTracks$Plan", "fillTrack", "(LChannelTracks$Segments;I)V"⟩, 1), (⟨"ChannelTracks$Plan", "leftmost", "(LChannelTracks$Segments;I)I"⟩, 1), (⟨"ChannelTracks$Plan", "isFree", "(LChannelTracks$Segments;II)Z"⟩, 1), (⟨"ChannelTracks$Plan", "placeFrom", "(LChannelTracks$Segments;II)Z"⟩, 1)]
theorem lw_r1 : ∀ q ∈ lw_privs_1, lw_okq q := List.forall_mem_cons.mpr ⟨lw_p0, List.forall_mem_cons.mpr ⟨lw_p1, List.forall_mem_cons.mpr ⟨lw_p2, List.forall_mem_cons.mpr ⟨lw_p3, List.forall_mem_cons.mpr ⟨lw_p4, List.forall_mem_cons.mpr ⟨lw_p5, List.forall_mem_cons.mpr ⟨lw_p6, List.forall_mem_cons.mpr ⟨lw_p7, List.forall_mem_cons.mpr ⟨lw_p8, List.forall_mem_cons.mpr ⟨lw_p9, List.forall_mem_cons.mpr ⟨lw_p10, List.forall_mem_cons.mpr ⟨lw_p11, List.forall_mem_cons.mpr ⟨lw_p12, List.forall_mem_cons.mpr ⟨lw_p13, List.forall_mem_cons.mpr ⟨lw_p14, List.forall_mem_cons.mpr ⟨lw_p15, fun _ h => absurd h List.not_mem_nil⟩⟩⟩⟩⟩⟩⟩⟩⟩⟩⟩⟩⟩⟩⟩⟩
theorem lw_p16 : lw_okq (⟨"ChannelTracks$Plan", "fitsBefore", "(LChannelTracks$Segments;I)Z"⟩, 1) := ⟨⟨by decide +kernel, by decide +kernel⟩, List.mem_of_getElem? (i := 146) (by decide +kernel), List.mem_of_getElem? (i := 475) (by decide +kernel), List.mem_of_getElem? (i := 476) (by decide +kernel)⟩
theorem lw_p17 : lw_okq (⟨"ChannelTracks", "isSplit", "(I)Z"⟩, 10) := ⟨⟨by decide +kernel, by decide +kernel⟩, List.mem_of_getElem? (i := 16) (by decide +kernel), List.mem_of_getElem? (i := 494) (by decide +kernel), List.mem_of_getElem? (i := 495) (by decide +kernel)⟩
theorem lw_p18 : lw_okq (⟨"ChannelTracks", "isColumn", "(I)Z"⟩, 10) := ⟨⟨by decide +kernel, by decide +kernel⟩, List.mem_of_getElem? (i := 16) (by decide +kernel), List.mem_of_getElem? (i := 502) (by decide +kernel), List.mem_of_getElem? (i := 503) (by decide +kernel)⟩
theorem lw_p19 : lw_okq (⟨"ChannelTracks", "breakingSet", "()I"⟩, 10) := ⟨⟨by decide +kernel, by decide +kernel⟩, List.mem_of_getElem? (i := 16) (by decide +kernel), List.mem_of_getElem? (i := 528) (by decide +kernel), List.mem_of_getElem? (i := 529) (by decide +kernel)⟩
theorem lw_p20 : lw_okq (⟨"ChannelTracks$Plan", "wireFromTop", "(LChannelTracks$Segments;III)Z"⟩, 1) := ⟨⟨by decide +kernel, by decide +kernel⟩, List.mem_of_getElem? (i := 146) (by decide +kernel), List.mem_of_getElem? (i := 554) (by decide +kernel), List.mem_of_getElem? (i := 555) (by decide +kernel)⟩
theorem lw_p21 : lw_okq (⟨"ChannelTracks$Plan", "wireFromBottom", "(LChannelTracks$Segments;III)Z"⟩, 1) := ⟨⟨by decide +kernel, by decide +kernel⟩, List.mem_of_getElem? (i := 146) (by decide +kernel), List.mem_of_getElem? (i := 559) (by decide +kernel), List.mem_of_getElem? (i := 560) (by decide +kernel)⟩
theorem lw_p22 : lw_okq (⟨"ChannelTracks", "isSegment", "(I)Z"⟩, 10) := ⟨⟨by decide +kernel, by decide +kernel⟩, List.mem_of_getElem? (i := 16) (by decide +kernel), List.mem_of_getElem? (i := 588) (by decide +kernel), List.mem_of_getElem? (i := 589) (by decide +kernel)⟩
theorem lw_p23 : lw_okq (⟨"ChannelTracks", "digestChannel", "(J)J"⟩, 10) := ⟨⟨by decide +kernel, by decide +kernel⟩, List.mem_of_getElem? (i := 16) (by decide +kernel), List.mem_of_getElem? (i := 647) (by decide +kernel), List.mem_of_getElem? (i := 648) (by decide +kernel)⟩
theorem lw_p24 : lw_okq (⟨"ChannelTracks", "digestSegments", "(J)J"⟩, 10) := ⟨⟨by decide +kernel, by decide +kernel⟩, List.mem_of_getElem? (i := 16) (by decide +kernel), List.mem_of_getElem? (i := 656) (by decide +kernel), List.mem_of_getElem? (i := 657) (by decide +kernel)⟩
theorem lw_p25 : lw_okq (⟨"ChannelTracks", "digestPlan", "(J)J"⟩, 10) := ⟨⟨by decide +kernel, by decide +kernel⟩, List.mem_of_getElem? (i := 16) (by decide +kernel), List.mem_of_getElem? (i := 663) (by decide +kernel), List.mem_of_getElem? (i := 664) (by decide +kernel)⟩
theorem lw_p26 : lw_okq (⟨"ChannelTracksModel", "readChannel", "()I"⟩, 21) := ⟨⟨by decide +kernel, by decide +kernel⟩, List.mem_of_getElem? (i := 670) (by decide +kernel), List.mem_of_getElem? (i := 755) (by decide +kernel), List.mem_of_getElem? (i := 756) (by decide +kernel)⟩
theorem lw_p27 : lw_okq (⟨"ChannelTracksModel", "pinsFrom", "(II)I"⟩, 21) := ⟨⟨by decide +kernel, by decide +kernel⟩, List.mem_of_getElem? (i := 670) (by decide +kernel), List.mem_of_getElem? (i := 759) (by decide +kernel), List.mem_of_getElem? (i := 760) (by decide +kernel)⟩
theorem lw_p28 : lw_okq (⟨"ChannelTracksModel", "readSaying", "()I"⟩, 21) := ⟨⟨by decide +kernel, by decide +kernel⟩, List.mem_of_getElem? (i := 670) (by decide +kernel), List.mem_of_getElem? (i := 766) (by decide +kernel), List.mem_of_getElem? (i := 767) (by decide +kernel)⟩
theorem lw_p29 : lw_okq (⟨"ChannelTracksModel", "likeSaying", "(I)I"⟩, 21) := ⟨⟨by decide +kernel, by decide +kernel⟩, List.mem_of_getElem? (i := 670) (by decide +kernel), List.mem_of_getElem? (i := 770) (by decide +kernel), List.mem_of_getElem? (i := 771) (by decide +kernel)⟩
theorem lw_p30 : lw_okq (⟨"ChannelTracksModel", "layNew", "()V"⟩, 21) := ⟨⟨by decide +kernel, by decide +kernel⟩, List.mem_of_getElem? (i := 670) (by decide +kernel), List.mem_of_getElem? (i := 787) (by decide +kernel), List.mem_of_getElem? (i := 788) (by decide +kernel)⟩
theorem lw_p31 : lw_okq (⟨"ChannelTracksModel", "layNow", "()V"⟩, 21) := ⟨⟨by decide +kernel, by decide +kernel⟩, List.mem_of_getElem? (i := 670) (by decide +kernel), List.mem_of_getElem? (i := 791) (by decide +kernel), List.mem_of_getElem? (i := 792) (by decide +kernel)⟩
def lw_privs_2 : List (MethodName × Nat) := [(⟨"ChannelTracks$Plan", "fitsBefore", "(LChannelTracks$Segments;I)Z"⟩, 1), (⟨"ChannelTracks", "isSplit", "(I)Z"⟩, 10), (⟨"ChannelTracks", "isColumn", "(I)Z"⟩, 10), (⟨"ChannelTracks", "breakingSet", "()I"⟩, 10), (⟨"ChannelTracks$Plan", "wireFromTop", "(LChannelTracks$Segments;III)Z"⟩, 1), (⟨"ChannelTracks$Plan", "wireFromBottom", "(LChannelTracks$Segments;III)Z"⟩, 1), (⟨"ChannelTracks", "isSegment", "(I)Z"⟩, 10), (⟨"ChannelTracks", "digestChannel", "(J)J"⟩, 10), (⟨"ChannelTracks", "digestSegments", "(J)J"⟩, 10), (⟨"ChannelTracks", "digestPlan", "(J)J"⟩, 10), (⟨"ChannelTracksModel", "readChannel", "()I"⟩, 21), (⟨"ChannelTracksModel", "pinsFrom", "(II)I"⟩, 21), (⟨"ChannelTracksModel", "readSaying", "()I"⟩, 21), (⟨"ChannelTracksModel", "likeSaying", "(I)I"⟩, 21), (⟨"ChannelTracksModel", "layNew", "()V"⟩, 21), (⟨"ChannelTracksModel", "layNow", "()V"⟩, 21)]
theorem lw_r2 : ∀ q ∈ lw_privs_2, lw_okq q := List.forall_mem_cons.mpr ⟨lw_p16, List.forall_mem_cons.mpr ⟨lw_p17, List.forall_mem_cons.mpr ⟨lw_p18, List.forall_mem_cons.mpr ⟨lw_p19, List.forall_mem_cons.mpr ⟨lw_p20, List.forall_mem_cons.mpr ⟨lw_p21, List.forall_mem_cons.mpr ⟨lw_p22, List.forall_mem_cons.mpr ⟨lw_p23, List.forall_mem_cons.mpr ⟨lw_p24, List.forall_mem_cons.mpr ⟨lw_p25, List.forall_mem_cons.mpr ⟨lw_p26, List.forall_mem_cons.mpr ⟨lw_p27, List.forall_mem_cons.mpr ⟨lw_p28, List.forall_mem_cons.mpr ⟨lw_p29, List.forall_mem_cons.mpr ⟨lw_p30, List.forall_mem_cons.mpr ⟨lw_p31, fun _ h => absurd h List.not_mem_nil⟩⟩⟩⟩⟩⟩⟩⟩⟩⟩⟩⟩⟩⟩⟩⟩
theorem lw_p32 : lw_okq (⟨"ChannelTracksModel", "laySegments", "(I)V"⟩, 21) := ⟨⟨by decide +kernel, by decide +kernel⟩, List.mem_of_getElem? (i := 670) (by decide +kernel), List.mem_of_getElem? (i := 795) (by decide +kernel), List.mem_of_getElem? (i := 796) (by decide +kernel)⟩
theorem lw_p33 : lw_okq (⟨"ChannelTracksModel", "layNet", "(IZ)V"⟩, 21) := ⟨⟨by decide +kernel, by decide +kernel⟩, List.mem_of_getElem? (i := 670) (by decide +kernel), List.mem_of_getElem? (i := 802) (by decide +kernel), List.mem_of_getElem? (i := 803) (by decide +kernel)⟩
theorem lw_p34 : lw_okq (⟨"ChannelTracksModel", "hasPin", "(II)Z"⟩, 21) := ⟨⟨by decide +kernel, by decide +kernel⟩, List.mem_of_getElem? (i := 670) (by decide +kernel), List.mem_of_getElem? (i := 806) (by decide +kernel), List.mem_of_getElem? (i := 807) (by decide +kernel)⟩
theorem lw_p35 : lw_okq (⟨"ChannelTracksModel", "top", "(I)I"⟩, 21) := ⟨⟨by decide +kernel, by decide +kernel⟩, List.mem_of_getElem? (i := 670) (by decide +kernel), List.mem_of_getElem? (i := 810) (by decide +kernel), List.mem_of_getElem? (i := 811) (by decide +kernel)⟩
theorem lw_p36 : lw_okq (⟨"ChannelTracksModel", "bottom", "(I)I"⟩, 21) := ⟨⟨by decide +kernel, by decide +kernel⟩, List.mem_of_getElem? (i := 670) (by decide +kernel), List.mem_of_getElem? (i := 814) (by decide +kernel), List.mem_of_getElem? (i := 815) (by decide +kernel)⟩
theorem lw_p37 : lw_okq (⟨"ChannelTracksModel", "addSegment", "(III)V"⟩, 21) := ⟨⟨by decide +kernel, by decide +kernel⟩, List.mem_of_getElem? (i := 670) (by decide +kernel), List.mem_of_getElem? (i := 818) (by decide +kernel), List.mem_of_getElem? (i := 819) (by decide +kernel)⟩
theorem lw_p38 : lw_okq (⟨"ChannelTracksModel", "isAbove", "(II)Z"⟩, 21) := ⟨⟨by decide +kernel, by decide +kernel⟩, List.mem_of_getElem? (i := 670) (by decide +kernel), List.mem_of_getElem? (i := 822) (by decide +kernel), List.mem_of_getElem? (i := 823) (by decide +kernel)⟩
theorem lw_p39 : lw_okq (⟨"ChannelTracksModel", "touches", "(II)Z"⟩, 21) := ⟨⟨by decide +kernel, by decide +kernel⟩, List.mem_of_getElem? (i := 670) (by decide +kernel), List.mem_of_getElem? (i := 826) (by decide +kernel), List.mem_of_getElem? (i := 827) (by decide +kernel)⟩
theorem lw_p40 : lw_okq (⟨"ChannelTracksModel", "isWithin", "(II)Z"⟩, 21) := ⟨⟨by decide +kernel, by decide +kernel⟩, List.mem_of_getElem? (i := 670) (by decide +kernel), List.mem_of_getElem? (i := 830) (by decide +kernel), List.mem_of_getElem? (i := 831) (by decide +kernel)⟩
theorem lw_p41 : lw_okq (⟨"ChannelTracksModel", "layRing", "()V"⟩, 21) := ⟨⟨by decide +kernel, by decide +kernel⟩, List.mem_of_getElem? (i := 670) (by decide +kernel), List.mem_of_getElem? (i := 834) (by decide +kernel), List.mem_of_getElem? (i := 835) (by decide +kernel)⟩
theorem lw_p42 : lw_okq (⟨"ChannelTracksModel", "isRing", "()Z"⟩, 21) := ⟨⟨by decide +kernel, by decide +kernel⟩, List.mem_of_getElem? (i := 670) (by decide +kernel), List.mem_of_getElem? (i := 838) (by decide +kernel), List.mem_of_getElem? (i := 839) (by decide +kernel)⟩
theorem lw_p43 : lw_okq (⟨"ChannelTracksModel", "findRing", "(I)Z"⟩, 21) := ⟨⟨by decide +kernel, by decide +kernel⟩, List.mem_of_getElem? (i := 670) (by decide +kernel), List.mem_of_getElem? (i := 842) (by decide +kernel), List.mem_of_getElem? (i := 843) (by decide +kernel)⟩
theorem lw_p44 : lw_okq (⟨"ChannelTracksModel", "layBack", "(II)Z"⟩, 21) := ⟨⟨by decide +kernel, by decide +kernel⟩, List.mem_of_getElem? (i := 670) (by decide +kernel), List.mem_of_getElem? (i := 846) (by decide +kernel), List.mem_of_getElem? (i := 847) (by decide +kernel)⟩
theorem lw_p45 : lw_okq (⟨"ChannelTracksModel", "sayingNow", "()I"⟩, 21) := ⟨⟨by decide +kernel, by decide +kernel⟩, List.mem_of_getElem? (i := 670) (by decide +kernel), List.mem_of_getElem? (i := 857) (by decide +kernel), List.mem_of_getElem? (i := 858) (by decide +kernel)⟩
theorem lw_p46 : lw_okq (⟨"ChannelTracksModel", "saidNow", "(I)I"⟩, 21) := ⟨⟨by decide +kernel, by decide +kernel⟩, List.mem_of_getElem? (i := 670) (by decide +kernel), List.mem_of_getElem? (i := 861) (by decide +kernel), List.mem_of_getElem? (i := 862) (by decide +kernel)⟩
theorem lw_p47 : lw_okq (⟨"ChannelTracksModel", "isThere", "()Z"⟩, 21) := ⟨⟨by decide +kernel, by decide +kernel⟩, List.mem_of_getElem? (i := 670) (by decide +kernel), List.mem_of_getElem? (i := 869) (by decide +kernel), List.mem_of_getElem? (i := 870) (by decide +kernel)⟩
def lw_privs_3 : List (MethodName × Nat) := [(⟨"ChannelTracksModel", "laySegments", "(I)V"⟩, 21), (⟨"ChannelTracksModel", "layNet", "(IZ)V"⟩, 21), (⟨"ChannelTracksModel", "hasPin", "(II)Z"⟩, 21), (⟨"ChannelTracksModel", "top", "(I)I"⟩, 21), (⟨"ChannelTracksModel", "bottom", "(I)I"⟩, 21), (⟨"ChannelTracksModel", "addSegment", "(III)V"⟩, 21), (⟨"ChannelTracksModel", "isAbove", "(II)Z"⟩, 21), (⟨"ChannelTracksModel", "touches", "(II)Z"⟩, 21), (⟨"ChannelTracksModel", "isWithin", "(II)Z"⟩, 21), (⟨"ChannelTracksModel", "layRing", "()V"⟩, 21), (⟨"ChannelTracksModel", "isRing", "()Z"⟩, 21), (⟨"ChannelTracksModel", "findRing", "(I)Z"⟩, 21), (⟨"ChannelTracksModel", "layBack", "(II)Z"⟩, 21), (⟨"ChannelTracksModel", "sayingNow", "()I"⟩, 21), (⟨"ChannelTracksModel", "saidNow", "(I)I"⟩, 21), (⟨"ChannelTracksModel", "isThere", "()Z"⟩, 21)]
theorem lw_r3 : ∀ q ∈ lw_privs_3, lw_okq q := List.forall_mem_cons.mpr ⟨lw_p32, List.forall_mem_cons.mpr ⟨lw_p33, List.forall_mem_cons.mpr ⟨lw_p34, List.forall_mem_cons.mpr ⟨lw_p35, List.forall_mem_cons.mpr ⟨lw_p36, List.forall_mem_cons.mpr ⟨lw_p37, List.forall_mem_cons.mpr ⟨lw_p38, List.forall_mem_cons.mpr ⟨lw_p39, List.forall_mem_cons.mpr ⟨lw_p40, List.forall_mem_cons.mpr ⟨lw_p41, List.forall_mem_cons.mpr ⟨lw_p42, List.forall_mem_cons.mpr ⟨lw_p43, List.forall_mem_cons.mpr ⟨lw_p44, List.forall_mem_cons.mpr ⟨lw_p45, List.forall_mem_cons.mpr ⟨lw_p46, List.forall_mem_cons.mpr ⟨lw_p47, fun _ h => absurd h List.not_mem_nil⟩⟩⟩⟩⟩⟩⟩⟩⟩⟩⟩⟩⟩⟩⟩⟩
theorem lw_p48 : lw_okq (⟨"ChannelTracksModel", "clearNow", "()I"⟩, 21) := ⟨⟨by decide +kernel, by decide +kernel⟩, List.mem_of_getElem? (i := 670) (by decide +kernel), List.mem_of_getElem? (i := 873) (by decide +kernel), List.mem_of_getElem? (i := 874) (by decide +kernel)⟩
theorem lw_p49 : lw_okq (⟨"ChannelTracksModel", "withTrack", "()I"⟩, 21) := ⟨⟨by decide +kernel, by decide +kernel⟩, List.mem_of_getElem? (i := 670) (by decide +kernel), List.mem_of_getElem? (i := 877) (by decide +kernel), List.mem_of_getElem? (i := 878) (by decide +kernel)⟩
theorem lw_p50 : lw_okq (⟨"ChannelTracksModel", "nextFor", "(I)I"⟩, 21) := ⟨⟨by decide +kernel, by decide +kernel⟩, List.mem_of_getElem? (i := 670) (by decide +kernel), List.mem_of_getElem? (i := 881) (by decide +kernel), List.mem_of_getElem? (i := 882) (by decide +kernel)⟩
theorem lw_p51 : lw_okq (⟨"ChannelTracksModel", "mayCome", "(II)Z"⟩, 21) := ⟨⟨by decide +kernel, by decide +kernel⟩, List.mem_of_getElem? (i := 670) (by decide +kernel), List.mem_of_getElem? (i := 885) (by decide +kernel), List.mem_of_getElem? (i := 886) (by decide +kernel)⟩
theorem lw_p52 : lw_okq (⟨"ChannelTracksModel", "isMet", "(II)Z"⟩, 21) := ⟨⟨by decide +kernel, by decide +kernel⟩, List.mem_of_getElem? (i := 670) (by decide +kernel), List.mem_of_getElem? (i := 889) (by decide +kernel), List.mem_of_getElem? (i := 890) (by decide +kernel)⟩
theorem lw_p53 : lw_okq (⟨"ChannelTracksModel", "depth", "()I"⟩, 21) := ⟨⟨by decide +kernel, by decide +kernel⟩, List.mem_of_getElem? (i := 670) (by decide +kernel), List.mem_of_getElem? (i := 893) (by decide +kernel), List.mem_of_getElem? (i := 894) (by decide +kernel)⟩
theorem lw_p54 : lw_okq (⟨"ChannelTracksModel", "findPlan", "(I)Z"⟩, 21) := ⟨⟨by decide +kernel, by decide +kernel⟩, List.mem_of_getElem? (i := 670) (by decide +kernel), List.mem_of_getElem? (i := 901) (by decide +kernel), List.mem_of_getElem? (i := 902) (by decide +kernel)⟩
theorem lw_p55 : lw_okq (⟨"ChannelTracksModel", "goesOn", "(I)Z"⟩, 21) := ⟨⟨by decide +kernel, by decide +kernel⟩, List.mem_of_getElem? (i := 670) (by decide +kernel), List.mem_of_getElem? (i := 905) (by decide +kernel), List.mem_of_getElem? (i := 906) (by decide +kernel)⟩
theorem lw_p56 : lw_okq (⟨"ChannelTracksModel", "isFine", "(II)Z"⟩, 21) := ⟨⟨by decide +kernel, by decide +kernel⟩, List.mem_of_getElem? (i := 670) (by decide +kernel), List.mem_of_getElem? (i := 909) (by decide +kernel), List.mem_of_getElem? (i := 910) (by decide +kernel)⟩
theorem lw_p57 : lw_okq (⟨"ChannelTracksModel", "isColumn", "(I)Z"⟩, 21) := ⟨⟨by decide +kernel, by decide +kernel⟩, List.mem_of_getElem? (i := 670) (by decide +kernel), List.mem_of_getElem? (i := 925) (by decide +kernel), List.mem_of_getElem? (i := 926) (by decide +kernel)⟩
theorem lw_p58 : lw_okq (⟨"ChannelTracksModel", "inkLength", "()I"⟩, 21) := ⟨⟨by decide +kernel, by decide +kernel⟩, List.mem_of_getElem? (i := 670) (by decide +kernel), List.mem_of_getElem? (i := 933) (by decide +kernel), List.mem_of_getElem? (i := 934) (by decide +kernel)⟩
theorem lw_p59 : lw_okq (⟨"ChannelTracksModel", "inkNow", "(I)I"⟩, 21) := ⟨⟨by decide +kernel, by decide +kernel⟩, List.mem_of_getElem? (i := 670) (by decide +kernel), List.mem_of_getElem? (i := 937) (by decide +kernel), List.mem_of_getElem? (i := 938) (by decide +kernel)⟩
theorem lw_p60 : lw_okq (⟨"ChannelTracksModel", "flat", "(II)I"⟩, 21) := ⟨⟨by decide +kernel, by decide +kernel⟩, List.mem_of_getElem? (i := 670) (by decide +kernel), List.mem_of_getElem? (i := 941) (by decide +kernel), List.mem_of_getElem? (i := 942) (by decide +kernel)⟩
theorem lw_p61 : lw_okq (⟨"ChannelTracksModel", "aboutNow", "(I)I"⟩, 21) := ⟨⟨by decide +kernel, by decide +kernel⟩, List.mem_of_getElem? (i := 670) (by decide +kernel), List.mem_of_getElem? (i := 952) (by decide +kernel), List.mem_of_getElem? (i := 953) (by decide +kernel)⟩
theorem lw_p62 : lw_okq (⟨"ChannelTracksModel", "density", "()I"⟩, 21) := ⟨⟨by decide +kernel, by decide +kernel⟩, List.mem_of_getElem? (i := 670) (by decide +kernel), List.mem_of_getElem? (i := 956) (by decide +kernel), List.mem_of_getElem? (i := 957) (by decide +kernel)⟩
theorem lw_p63 : lw_okq (⟨"ChannelTracksModel", "netsIn", "(I)I"⟩, 21) := ⟨⟨by decide +kernel, by decide +kernel⟩, List.mem_of_getElem? (i := 670) (by decide +kernel), List.mem_of_getElem? (i := 960) (by decide +kernel), List.mem_of_getElem? (i := 961) (by decide +kernel)⟩
def lw_privs_4 : List (MethodName × Nat) := [(⟨"ChannelTracksModel", "clearNow", "()I"⟩, 21), (⟨"ChannelTracksModel", "withTrack", "()I"⟩, 21), (⟨"ChannelTracksModel", "nextFor", "(I)I"⟩, 21), (⟨"ChannelTracksModel", "mayCome", "(II)Z"⟩, 21), (⟨"ChannelTracksModel", "isMet", "(II)Z"⟩, 21), (⟨"ChannelTracksModel", "depth", "()I"⟩, 21), (⟨"ChannelTracksModel", "findPlan", "(I)Z"⟩, 21), (⟨"ChannelTracksModel", "goesOn", "(I)Z"⟩, 21), (⟨"ChannelTracksModel", "isFine", "(II)Z"⟩, 21), (⟨"ChannelTracksModel", "isColumn", "(I)Z"⟩, 21), (⟨"ChannelTracksModel", "inkLength", "()I"⟩, 21), (⟨"ChannelTracksModel", "inkNow", "(I)I"⟩, 21), (⟨"ChannelTracksModel", "flat", "(II)I"⟩, 21), (⟨"ChannelTracksModel", "aboutNow", "(I)I"⟩, 21), (⟨"ChannelTracksModel", "density", "()I"⟩, 21), (⟨"ChannelTracksModel", "netsIn", "(I)I"⟩, 21)]
theorem lw_r4 : ∀ q ∈ lw_privs_4, lw_okq q := List.forall_mem_cons.mpr ⟨lw_p48, List.forall_mem_cons.mpr ⟨lw_p49, List.forall_mem_cons.mpr ⟨lw_p50, List.forall_mem_cons.mpr ⟨lw_p51, List.forall_mem_cons.mpr ⟨lw_p52, List.forall_mem_cons.mpr ⟨lw_p53, List.forall_mem_cons.mpr ⟨lw_p54, List.forall_mem_cons.mpr ⟨lw_p55, List.forall_mem_cons.mpr ⟨lw_p56, List.forall_mem_cons.mpr ⟨lw_p57, List.forall_mem_cons.mpr ⟨lw_p58, List.forall_mem_cons.mpr ⟨lw_p59, List.forall_mem_cons.mpr ⟨lw_p60, List.forall_mem_cons.mpr ⟨lw_p61, List.forall_mem_cons.mpr ⟨lw_p62, List.forall_mem_cons.mpr ⟨lw_p63, fun _ h => absurd h List.not_mem_nil⟩⟩⟩⟩⟩⟩⟩⟩⟩⟩⟩⟩⟩⟩⟩⟩
theorem lw_p64 : lw_okq (⟨"ChannelTracksModel", "chain", "()I"⟩, 21) := ⟨⟨by decide +kernel, by decide +kernel⟩, List.mem_of_getElem? (i := 670) (by decide +kernel), List.mem_of_getElem? (i := 964) (by decide +kernel), List.mem_of_getElem? (i := 965) (by decide +kernel)⟩
theorem lw_p65 : lw_okq (⟨"ChannelTracksModel", "level", "(I)I"⟩, 21) := ⟨⟨by decide +kernel, by decide +kernel⟩, List.mem_of_getElem? (i := 670) (by decide +kernel), List.mem_of_getElem? (i := 968) (by decide +kernel), List.mem_of_getElem? (i := 969) (by decide +kernel)⟩
theorem lw_p66 : lw_okq (⟨"ChannelTracksModel", "levelOf", "(I)I"⟩, 21) := ⟨⟨by decide +kernel, by decide +kernel⟩, List.mem_of_getElem? (i := 670) (by decide +kernel), List.mem_of_getElem? (i := 972) (by decide +kernel), List.mem_of_getElem? (i := 973) (by decide +kernel)⟩
theorem lw_p67 : lw_okq (⟨"ChannelTracksModel", "breakNow", "()I"⟩, 21) := ⟨⟨by decide +kernel, by decide +kernel⟩, List.mem_of_getElem? (i := 670) (by decide +kernel), List.mem_of_getElem? (i := 976) (by decide +kernel), List.mem_of_getElem? (i := 977) (by decide +kernel)⟩
theorem lw_p68 : lw_okq (⟨"ChannelTracksModel", "breakBy", "(I)I"⟩, 21) := ⟨⟨by decide +kernel, by decide +kernel⟩, List.mem_of_getElem? (i := 670) (by decide +kernel), List.mem_of_getElem? (i := 980) (by decide +kernel), List.mem_of_getElem? (i := 981) (by decide +kernel)⟩
theorem lw_p69 : lw_okq (⟨"ChannelTracksModel", "zones", "(I)I"⟩, 21) := ⟨⟨by decide +kernel, by decide +kernel⟩, List.mem_of_getElem? (i := 670) (by decide +kernel), List.mem_of_getElem? (i := 984) (by decide +kernel), List.mem_of_getElem? (i := 985) (by decide +kernel)⟩
theorem lw_p70 : lw_okq (⟨"ChannelTracksModel", "isZone", "(I)Z"⟩, 21) := ⟨⟨by decide +kernel, by decide +kernel⟩, List.mem_of_getElem? (i := 670) (by decide +kernel), List.mem_of_getElem? (i := 988) (by decide +kernel), List.mem_of_getElem? (i := 989) (by decide +kernel)⟩
theorem lw_p71 : lw_okq (⟨"ChannelTracksModel", "fits", "()Z"⟩, 21) := ⟨⟨by decide +kernel, by decide +kernel⟩, List.mem_of_getElem? (i := 670) (by decide +kernel), List.mem_of_getElem? (i := 992) (by decide +kernel), List.mem_of_getElem? (i := 993) (by decide +kernel)⟩
theorem lw_p72 : lw_okq (⟨"ChannelTracksModel", "clashes", "()I"⟩, 21) := ⟨⟨by decide +kernel, by decide +kernel⟩, List.mem_of_getElem? (i := 670) (by decide +kernel), List.mem_of_getElem? (i := 996) (by decide +kernel), List.mem_of_getElem? (i := 997) (by decide +kernel)⟩
theorem lw_p73 : lw_okq (⟨"ChannelTracksModel", "upright", "(II)I"⟩, 21) := ⟨⟨by decide +kernel, by decide +kernel⟩, List.mem_of_getElem? (i := 670) (by decide +kernel), List.mem_of_getElem? (i := 1000) (by decide +kernel), List.mem_of_getElem? (i := 1001) (by decide +kernel)⟩
theorem lw_p74 : lw_okq (⟨"ChannelTracksModel", "isNetThere", "(I)Z"⟩, 21) := ⟨⟨by decide +kernel, by decide +kernel⟩, List.mem_of_getElem? (i := 670) (by decide +kernel), List.mem_of_getElem? (i := 1012) (by decide +kernel), List.mem_of_getElem? (i := 1013) (by decide +kernel)⟩
theorem lw_p75 : lw_okq (⟨"ChannelTracksModel", "pinsOf", "(I)I"⟩, 21) := ⟨⟨by decide +kernel, by decide +kernel⟩, List.mem_of_getElem? (i := 670) (by decide +kernel), List.mem_of_getElem? (i := 1016) (by decide +kernel), List.mem_of_getElem? (i := 1017) (by decide +kernel)⟩
theorem lw_p76 : lw_okq (⟨"ChannelTracksModel", "netNow", "(II)I"⟩, 21) := ⟨⟨by decide +kernel, by decide +kernel⟩, List.mem_of_getElem? (i := 670) (by decide +kernel), List.mem_of_getElem? (i := 1020) (by decide +kernel), List.mem_of_getElem? (i := 1021) (by decide +kernel)⟩
theorem lw_p77 : lw_okq (⟨"ChannelTracksModel", "firstPin", "(I)I"⟩, 21) := ⟨⟨by decide +kernel, by decide +kernel⟩, List.mem_of_getElem? (i := 670) (by decide +kernel), List.mem_of_getElem? (i := 1024) (by decide +kernel), List.mem_of_getElem? (i := 1025) (by decide +kernel)⟩
theorem lw_p78 : lw_okq (⟨"ChannelTracksModel", "lastPin", "(I)I"⟩, 21) := ⟨⟨by decide +kernel, by decide +kernel⟩, List.mem_of_getElem? (i := 670) (by decide +kernel), List.mem_of_getElem? (i := 1028) (by decide +kernel), List.mem_of_getElem? (i := 1029) (by decide +kernel)⟩
theorem lw_p79 : lw_okq (⟨"ChannelTracksModel", "segmentsOf", "(I)I"⟩, 21) := ⟨⟨by decide +kernel, by decide +kernel⟩, List.mem_of_getElem? (i := 670) (by decide +kernel), List.mem_of_getElem? (i := 1032) (by decide +kernel), List.mem_of_getElem? (i := 1033) (by decide +kernel)⟩
def lw_privs_5 : List (MethodName × Nat) := [(⟨"ChannelTracksModel", "chain", "()I"⟩, 21), (⟨"ChannelTracksModel", "level", "(I)I"⟩, 21), (⟨"ChannelTracksModel", "levelOf", "(I)I"⟩, 21), (⟨"ChannelTracksModel", "breakNow", "()I"⟩, 21), (⟨"ChannelTracksModel", "breakBy", "(I)I"⟩, 21), (⟨"ChannelTracksModel", "zones", "(I)I"⟩, 21), (⟨"ChannelTracksModel", "isZone", "(I)Z"⟩, 21), (⟨"ChannelTracksModel", "fits", "()Z"⟩, 21), (⟨"ChannelTracksModel", "clashes", "()I"⟩, 21), (⟨"ChannelTracksModel", "upright", "(II)I"⟩, 21), (⟨"ChannelTracksModel", "isNetThere", "(I)Z"⟩, 21), (⟨"ChannelTracksModel", "pinsOf", "(I)I"⟩, 21), (⟨"ChannelTracksModel", "netNow", "(II)I"⟩, 21), (⟨"ChannelTracksModel", "firstPin", "(I)I"⟩, 21), (⟨"ChannelTracksModel", "lastPin", "(I)I"⟩, 21), (⟨"ChannelTracksModel", "segmentsOf", "(I)I"⟩, 21)]
theorem lw_r5 : ∀ q ∈ lw_privs_5, lw_okq q := List.forall_mem_cons.mpr ⟨lw_p64, List.forall_mem_cons.mpr ⟨lw_p65, List.forall_mem_cons.mpr ⟨lw_p66, List.forall_mem_cons.mpr ⟨lw_p67, List.forall_mem_cons.mpr ⟨lw_p68, List.forall_mem_cons.mpr ⟨lw_p69, List.forall_mem_cons.mpr ⟨lw_p70, List.forall_mem_cons.mpr ⟨lw_p71, List.forall_mem_cons.mpr ⟨lw_p72, List.forall_mem_cons.mpr ⟨lw_p73, List.forall_mem_cons.mpr ⟨lw_p74, List.forall_mem_cons.mpr ⟨lw_p75, List.forall_mem_cons.mpr ⟨lw_p76, List.forall_mem_cons.mpr ⟨lw_p77, List.forall_mem_cons.mpr ⟨lw_p78, List.forall_mem_cons.mpr ⟨lw_p79, fun _ h => absurd h List.not_mem_nil⟩⟩⟩⟩⟩⟩⟩⟩⟩⟩⟩⟩⟩⟩⟩⟩
theorem lw_p80 : lw_okq (⟨"ChannelTracksModel", "isSegment", "(I)Z"⟩, 21) := ⟨⟨by decide +kernel, by decide +kernel⟩, List.mem_of_getElem? (i := 670) (by decide +kernel), List.mem_of_getElem? (i := 1040) (by decide +kernel), List.mem_of_getElem? (i := 1041) (by decide +kernel)⟩
theorem lw_p81 : lw_okq (⟨"ChannelTracksModel", "segmentNow", "(II)I"⟩, 21) := ⟨⟨by decide +kernel, by decide +kernel⟩, List.mem_of_getElem? (i := 670) (by decide +kernel), List.mem_of_getElem? (i := 1044) (by decide +kernel), List.mem_of_getElem? (i := 1045) (by decide +kernel)⟩
theorem lw_p82 : lw_okq (⟨"ChannelTracksModel", "overIt", "(I)I"⟩, 21) := ⟨⟨by decide +kernel, by decide +kernel⟩, List.mem_of_getElem? (i := 670) (by decide +kernel), List.mem_of_getElem? (i := 1048) (by decide +kernel), List.mem_of_getElem? (i := 1049) (by decide +kernel)⟩
theorem lw_p83 : lw_okq (⟨"ChannelTracksModel", "isFree", "(II)Z"⟩, 21) := ⟨⟨by decide +kernel, by decide +kernel⟩, List.mem_of_getElem? (i := 670) (by decide +kernel), List.mem_of_getElem? (i := 1060) (by decide +kernel), List.mem_of_getElem? (i := 1061) (by decide +kernel)⟩
theorem lw_p84 : lw_okq (⟨"ChannelTracksModel", "howMany", "(I)I"⟩, 21) := ⟨⟨by decide +kernel, by decide +kernel⟩, List.mem_of_getElem? (i := 670) (by decide +kernel), List.mem_of_getElem? (i := 1093) (by decide +kernel), List.mem_of_getElem? (i := 1094) (by decide +kernel)⟩
theorem lw_p85 : lw_okq (⟨"ChannelTracksModel", "netsThere", "()I"⟩, 21) := ⟨⟨by decide +kernel, by decide +kernel⟩, List.mem_of_getElem? (i := 670) (by decide +kernel), List.mem_of_getElem? (i := 1097) (by decide +kernel), List.mem_of_getElem? (i := 1098) (by decide +kernel)⟩
theorem lw_p86 : lw_okq (⟨"ChannelTracksModel", "mixChannel", "()V"⟩, 21) := ⟨⟨by decide +kernel, by decide +kernel⟩, List.mem_of_getElem? (i := 670) (by decide +kernel), List.mem_of_getElem? (i := 1106) (by decide +kernel), List.mem_of_getElem? (i := 1107) (by decide +kernel)⟩
theorem lw_p87 : lw_okq (⟨"ChannelTracksModel", "mix", "(J)V"⟩, 21) := ⟨⟨by decide +kernel, by decide +kernel⟩, List.mem_of_getElem? (i := 670) (by decide +kernel), List.mem_of_getElem? (i := 1110) (by decide +kernel), List.mem_of_getElem? (i := 1111) (by decide +kernel)⟩
theorem lw_p88 : lw_okq (⟨"ChannelTracksModel", "mixSegments", "()V"⟩, 21) := ⟨⟨by decide +kernel, by decide +kernel⟩, List.mem_of_getElem? (i := 670) (by decide +kernel), List.mem_of_getElem? (i := 1115) (by decide +kernel), List.mem_of_getElem? (i := 1116) (by decide +kernel)⟩
def lw_privs_6 : List (MethodName × Nat) := [(⟨"ChannelTracksModel", "isSegment", "(I)Z"⟩, 21), (⟨"ChannelTracksModel", "segmentNow", "(II)I"⟩, 21), (⟨"ChannelTracksModel", "overIt", "(I)I"⟩, 21), (⟨"ChannelTracksModel", "isFree", "(II)Z"⟩, 21), (⟨"ChannelTracksModel", "howMany", "(I)I"⟩, 21), (⟨"ChannelTracksModel", "netsThere", "()I"⟩, 21), (⟨"ChannelTracksModel", "mixChannel", "()V"⟩, 21), (⟨"ChannelTracksModel", "mix", "(J)V"⟩, 21), (⟨"ChannelTracksModel", "mixSegments", "()V"⟩, 21)]
theorem lw_r6 : ∀ q ∈ lw_privs_6, lw_okq q := List.forall_mem_cons.mpr ⟨lw_p80, List.forall_mem_cons.mpr ⟨lw_p81, List.forall_mem_cons.mpr ⟨lw_p82, List.forall_mem_cons.mpr ⟨lw_p83, List.forall_mem_cons.mpr ⟨lw_p84, List.forall_mem_cons.mpr ⟨lw_p85, List.forall_mem_cons.mpr ⟨lw_p86, List.forall_mem_cons.mpr ⟨lw_p87, List.forall_mem_cons.mpr ⟨lw_p88, fun _ h => absurd h List.not_mem_nil⟩⟩⟩⟩⟩⟩⟩⟩⟩
def lw_privs : List (MethodName × Nat) := lw_privs_1 ++ (lw_privs_2 ++ (lw_privs_3 ++ (lw_privs_4 ++ (lw_privs_5 ++ (lw_privs_6)))))
def lw_tbl : List Cond := k2_sels lw_privs ++ tables_1
theorem lw_privs_ok : ∀ q ∈ lw_privs, lw_okq q := by
  show ∀ q ∈ lw_privs_1 ++ (lw_privs_2 ++ (lw_privs_3 ++ (lw_privs_4 ++ (lw_privs_5 ++ (lw_privs_6))))), lw_okq q
  exact List.forall_mem_append.mpr ⟨lw_r1, List.forall_mem_append.mpr ⟨lw_r2, List.forall_mem_append.mpr ⟨lw_r3, List.forall_mem_append.mpr ⟨lw_r4, List.forall_mem_append.mpr ⟨lw_r5, lw_r6⟩⟩⟩⟩⟩
end
section
def RX0 : String := "ChannelTracks$Pins"
def TX0 : u_T := fun k => match k with
  | 0 => ("ChannelTracks$Pins", "net", "[I", true)
  | _ => ("ChannelTracks$Pins", "columns", "I", false)
def tyX0 : Nat → FieldType := fun k => match k with
  | 0 => .array .int
  | _ => .int
theorem nmX0 : ∀ a, a < 2 → ∀ b, b < 2 → a ≠ b → (TX0 a).2.1 ≠ (TX0 b).2.1 := by decide +kernel
theorem tyX0_ok : ∀ k, k < 2 → parseFieldDescriptor (TX0 k).2.2.1 = some (tyX0 k) := by decide +kernel
abbrev cX0_init : ByteArray := prog_2_method_1_code
def yX0_init : MethodName := ⟨RX0, "<init>", "()V"⟩
abbrev cX0_netOf : ByteArray := prog_2_method_2_code
def yX0_netOf : MethodName := ⟨RX0, "netOf", "(II)I"⟩
abbrev cX0_change : ByteArray := prog_2_method_3_code
def yX0_change : MethodName := ⟨RX0, "change", "(III)V"⟩
abbrev cX0_columnsWith : ByteArray := prog_2_method_4_code
def yX0_columnsWith : MethodName := ⟨RX0, "columnsWith", "(I)I"⟩
abbrev cX0_pinsOf : ByteArray := prog_2_method_5_code
def yX0_pinsOf : MethodName := ⟨RX0, "pinsOf", "(I)I"⟩
abbrev cX0_pinsOfNets : ByteArray := prog_2_method_6_code
def yX0_pinsOfNets : MethodName := ⟨RX0, "pinsOfNets", "()I"⟩
abbrev cX0_nets : ByteArray := prog_2_method_7_code
def yX0_nets : MethodName := ⟨RX0, "nets", "()I"⟩
abbrev cX0_splittableNets : ByteArray := prog_2_method_8_code
def yX0_splittableNets : MethodName := ⟨RX0, "splittableNets", "()I"⟩
def RX1 : String := "ChannelTracks$Plan"
def TX1 : u_T := fun k => match k with
  | _ => ("ChannelTracks$Plan", "track", "[I", true)
def tyX1 : Nat → FieldType := fun k => match k with
  | _ => .array .int
theorem nmX1 : ∀ a, a < 1 → ∀ b, b < 1 → a ≠ b → (TX1 a).2.1 ≠ (TX1 b).2.1 := by decide +kernel
theorem tyX1_ok : ∀ k, k < 1 → parseFieldDescriptor (TX1 k).2.2.1 = some (tyX1 k) := by decide +kernel
abbrev cX1_init : ByteArray := prog_3_method_1_code
def yX1_init : MethodName := ⟨RX1, "<init>", "()V"⟩
abbrev cX1_takeAllAway : ByteArray := prog_3_method_2_code
def yX1_takeAllAway : MethodName := ⟨RX1, "takeAllAway", "()V"⟩
abbrev cX1_placed : ByteArray := prog_3_method_3_code
def yX1_placed : MethodName := ⟨RX1, "placed", "()I"⟩
abbrev cX1_depth : ByteArray := prog_3_method_4_code
def yX1_depth : MethodName := ⟨RX1, "depth", "()I"⟩
abbrev cX1_isValid : ByteArray := prog_3_method_5_code
def yX1_isValid : MethodName := ⟨RX1, "isValid", "(LChannelTracks$Segments;)Z"⟩
abbrev cX1_fitsBefore : ByteArray := prog_3_method_6_code
def yX1_fitsBefore : MethodName := ⟨RX1, "fitsBefore", "(LChannelTracks$Segments;I)Z"⟩
abbrev cX1_horizontalNets : ByteArray := prog_3_method_7_code
def yX1_horizontalNets : MethodName := ⟨RX1, "horizontalNets", "(LChannelTracks$Segments;II)I"⟩
abbrev cX1_verticalNets : ByteArray := prog_3_method_8_code
def yX1_verticalNets : MethodName := ⟨RX1, "verticalNets", "(LChannelTracks$Pins;LChannelTracks$Segments;II)I"⟩
abbrev cX1_wireFromTop : ByteArray := prog_3_method_9_code
def yX1_wireFromTop : MethodName := ⟨RX1, "wireFromTop", "(LChannelTracks$Segments;III)Z"⟩
abbrev cX1_wireFromBottom : ByteArray := prog_3_method_10_code
def yX1_wireFromBottom : MethodName := ⟨RX1, "wireFromBottom", "(LChannelTracks$Segments;III)Z"⟩
abbrev cX1_conflicts : ByteArray := prog_3_method_11_code
def yX1_conflicts : MethodName := ⟨RX1, "conflicts", "(LChannelTracks$Pins;LChannelTracks$Segments;)I"⟩
abbrev cX1_fillFromLeft : ByteArray := prog_3_method_12_code
def yX1_fillFromLeft : MethodName := ⟨RX1, "fillFromLeft", "(LChannelTracks$Segments;)V"⟩
abbrev cX1_fillTrack : ByteArray := prog_3_method_13_code
def yX1_fillTrack : MethodName := ⟨RX1, "fillTrack", "(LChannelTracks$Segments;I)V"⟩
abbrev cX1_leftmost : ByteArray := prog_3_method_14_code
def yX1_leftmost : MethodName := ⟨RX1, "leftmost", "(LChannelTracks$Segments;I)I"⟩
abbrev cX1_isFree : ByteArray := prog_3_method_15_code
def yX1_isFree : MethodName := ⟨RX1, "isFree", "(LChannelTracks$Segments;II)Z"⟩
abbrev cX1_fillBest : ByteArray := prog_3_method_16_code
def yX1_fillBest : MethodName := ⟨RX1, "fillBest", "(LChannelTracks$Segments;I)V"⟩
abbrev cX1_placeFrom : ByteArray := prog_3_method_17_code
def yX1_placeFrom : MethodName := ⟨RX1, "placeFrom", "(LChannelTracks$Segments;II)Z"⟩
def RX2 : String := "ChannelTracks$Ring"
def TX2 : u_T := fun k => match k with
  | 0 => ("ChannelTracks$Ring", "segment", "[I", true)
  | _ => ("ChannelTracks$Ring", "length", "I", false)
def tyX2 : Nat → FieldType := fun k => match k with
  | 0 => .array .int
  | _ => .int
theorem nmX2 : ∀ a, a < 2 → ∀ b, b < 2 → a ≠ b → (TX2 a).2.1 ≠ (TX2 b).2.1 := by decide +kernel
theorem tyX2_ok : ∀ k, k < 2 → parseFieldDescriptor (TX2 k).2.2.1 = some (tyX2 k) := by decide +kernel
abbrev cX2_init : ByteArray := prog_4_method_1_code
def yX2_init : MethodName := ⟨RX2, "<init>", "()V"⟩
abbrev cX2_find : ByteArray := prog_4_method_2_code
def yX2_find : MethodName := ⟨RX2, "find", "(LChannelTracks$Segments;)V"⟩
abbrev cX2_startOfShortest : ByteArray := prog_4_method_3_code
def yX2_startOfShortest : MethodName := ⟨RX2, "startOfShortest", "(LChannelTracks$Segments;)I"⟩
abbrev cX2_next : ByteArray := prog_4_method_4_code
def yX2_next : MethodName := ⟨RX2, "next", "(LChannelTracks$Segments;III)I"⟩
def RX3 : String := "ChannelTracks$Segments"
def TX3 : u_T := fun k => match k with
  | 0 => ("ChannelTracks$Segments", "net", "[I", true)
  | 1 => ("ChannelTracks$Segments", "first", "[I", true)
  | 2 => ("ChannelTracks$Segments", "last", "[I", true)
  | 3 => ("ChannelTracks$Segments", "below", "[I", true)
  | 4 => ("ChannelTracks$Segments", "over", "[I", true)
  | 5 => ("ChannelTracks$Segments", "level", "[I", true)
  | 6 => ("ChannelTracks$Segments", "height", "[I", true)
  | 7 => ("ChannelTracks$Segments", "attached", "[I", true)
  | 8 => ("ChannelTracks$Segments", "number", "I", false)
  | _ => ("ChannelTracks$Segments", "chain", "I", false)
def tyX3 : Nat → FieldType := fun k => match k with
  | 0 => .array .int
  | 1 => .array .int
  | 2 => .array .int
  | 3 => .array .int
  | 4 => .array .int
  | 5 => .array .int
  | 6 => .array .int
  | 7 => .array .int
  | 8 => .int
  | _ => .int
theorem nmX3 : ∀ a, a < 10 → ∀ b, b < 10 → a ≠ b → (TX3 a).2.1 ≠ (TX3 b).2.1 := by decide +kernel
theorem tyX3_ok : ∀ k, k < 10 → parseFieldDescriptor (TX3 k).2.2.1 = some (tyX3 k) := by decide +kernel
abbrev cX3_init : ByteArray := prog_5_method_1_code
def yX3_init : MethodName := ⟨RX3, "<init>", "()V"⟩
abbrev cX3_build : ByteArray := prog_5_method_2_code
def yX3_build : MethodName := ⟨RX3, "build", "(LChannelTracks$Pins;I)V"⟩
abbrev cX3_addPieces : ByteArray := prog_5_method_3_code
def yX3_addPieces : MethodName := ⟨RX3, "addPieces", "(II)V"⟩
abbrev cX3_add : ByteArray := prog_5_method_4_code
def yX3_add : MethodName := ⟨RX3, "add", "(IIII)V"⟩
abbrev cX3_constrain : ByteArray := prog_5_method_5_code
def yX3_constrain : MethodName := ⟨RX3, "constrain", "(III)V"⟩
abbrev cX3_isJoined : ByteArray := prog_5_method_6_code
def yX3_isJoined : MethodName := ⟨RX3, "isJoined", "(III)Z"⟩
abbrev cX3_isAbove : ByteArray := prog_5_method_7_code
def yX3_isAbove : MethodName := ⟨RX3, "isAbove", "(II)Z"⟩
abbrev cX3_covers : ByteArray := prog_5_method_8_code
def yX3_covers : MethodName := ⟨RX3, "covers", "(II)Z"⟩
abbrev cX3_overlap : ByteArray := prog_5_method_9_code
def yX3_overlap : MethodName := ⟨RX3, "overlap", "(II)Z"⟩
abbrev cX3_rank : ByteArray := prog_5_method_10_code
def yX3_rank : MethodName := ⟨RX3, "rank", "([I[I)I"⟩
abbrev cX3_freeOf : ByteArray := prog_5_method_11_code
def yX3_freeOf : MethodName := ⟨RX3, "freeOf", "([II)I"⟩
abbrev cX3_giveRank : ByteArray := prog_5_method_12_code
def yX3_giveRank : MethodName := ⟨RX3, "giveRank", "([III)V"⟩
abbrev cX3_hasCycle : ByteArray := prog_5_method_13_code
def yX3_hasCycle : MethodName := ⟨RX3, "hasCycle", "()Z"⟩
abbrev cX3_steps : ByteArray := prog_5_method_14_code
def yX3_steps : MethodName := ⟨RX3, "steps", "(II)I"⟩
abbrev cX3_belowAny : ByteArray := prog_5_method_15_code
def yX3_belowAny : MethodName := ⟨RX3, "belowAny", "(I)I"⟩
abbrev cX3_numberOf : ByteArray := prog_5_method_16_code
def yX3_numberOf : MethodName := ⟨RX3, "numberOf", "(I)I"⟩
def RX4 : String := "ChannelTracks$Text"
def TX4 : u_T := fun k => match k with
  | 0 => ("ChannelTracks$Text", "code", "[I", true)
  | _ => ("ChannelTracks$Text", "length", "I", false)
def tyX4 : Nat → FieldType := fun k => match k with
  | 0 => .array .int
  | _ => .int
theorem nmX4 : ∀ a, a < 2 → ∀ b, b < 2 → a ≠ b → (TX4 a).2.1 ≠ (TX4 b).2.1 := by decide +kernel
theorem tyX4_ok : ∀ k, k < 2 → parseFieldDescriptor (TX4 k).2.2.1 = some (tyX4 k) := by decide +kernel
abbrev cX4_init : ByteArray := prog_6_method_1_code
def yX4_init : MethodName := ⟨RX4, "<init>", "()V"⟩
abbrev cX4_append : ByteArray := prog_6_method_2_code
def yX4_append : MethodName := ⟨RX4, "append", "(I)V"⟩
abbrev cX4_lastCode : ByteArray := prog_6_method_3_code
def yX4_lastCode : MethodName := ⟨RX4, "lastCode", "()I"⟩
abbrev cX4_netAt : ByteArray := prog_6_method_4_code
def yX4_netAt : MethodName := ⟨RX4, "netAt", "(I)I"⟩
abbrev cX4_channelFault : ByteArray := prog_6_method_5_code
def yX4_channelFault : MethodName := ⟨RX4, "channelFault", "()I"⟩
abbrev cX4_fitsChannel : ByteArray := prog_6_method_6_code
def yX4_fitsChannel : MethodName := ⟨RX4, "fitsChannel", "(II)Z"⟩
abbrev cX4_isPinSign : ByteArray := prog_6_method_7_code
def yX4_isPinSign : MethodName := ⟨RX4, "isPinSign", "(I)Z"⟩
abbrev cX4_isNetSign : ByteArray := prog_6_method_8_code
def yX4_isNetSign : MethodName := ⟨RX4, "isNetSign", "(I)Z"⟩
abbrev cX4_columnsOfChannel : ByteArray := prog_6_method_9_code
def yX4_columnsOfChannel : MethodName := ⟨RX4, "columnsOfChannel", "()I"⟩
abbrev cX4_commandFault : ByteArray := prog_6_method_10_code
def yX4_commandFault : MethodName := ⟨RX4, "commandFault", "()I"⟩
abbrev cX4_command : ByteArray := prog_6_method_11_code
def yX4_command : MethodName := ⟨RX4, "command", "()I"⟩
abbrev cX4_pattern : ByteArray := prog_6_method_12_code
def yX4_pattern : MethodName := ⟨RX4, "pattern", "(I)Ljava/lang/String;"⟩
abbrev cX4_agreement : ByteArray := prog_6_method_13_code
def yX4_agreement : MethodName := ⟨RX4, "agreement", "(Ljava/lang/String;)I"⟩
abbrev cX4_agrees : ByteArray := prog_6_method_14_code
def yX4_agrees : MethodName := ⟨RX4, "agrees", "(IC)Z"⟩
def RX5 : String := "ChannelTracks$Zones"
def TX5 : u_T := fun k => match k with
  | 0 => ("ChannelTracks$Zones", "crossing", "[I", true)
  | 1 => ("ChannelTracks$Zones", "nets", "[I", true)
  | 2 => ("ChannelTracks$Zones", "number", "I", false)
  | _ => ("ChannelTracks$Zones", "density", "I", false)
def tyX5 : Nat → FieldType := fun k => match k with
  | 0 => .array .int
  | 1 => .array .int
  | 2 => .int
  | _ => .int
theorem nmX5 : ∀ a, a < 4 → ∀ b, b < 4 → a ≠ b → (TX5 a).2.1 ≠ (TX5 b).2.1 := by decide +kernel
theorem tyX5_ok : ∀ k, k < 4 → parseFieldDescriptor (TX5 k).2.2.1 = some (tyX5 k) := by decide +kernel
abbrev cX5_init : ByteArray := prog_7_method_1_code
def yX5_init : MethodName := ⟨RX5, "<init>", "()V"⟩
abbrev cX5_find : ByteArray := prog_7_method_2_code
def yX5_find : MethodName := ⟨RX5, "find", "(LChannelTracks$Segments;I)V"⟩
abbrev cX5_crossingSet : ByteArray := prog_7_method_3_code
def yX5_crossingSet : MethodName := ⟨RX5, "crossingSet", "(LChannelTracks$Segments;I)I"⟩
abbrev cX5_isNewZone : ByteArray := prog_7_method_4_code
def yX5_isNewZone : MethodName := ⟨RX5, "isNewZone", "(II)Z"⟩
def RX6 : String := "ChannelTracks"
def TX6 : u_T := fun k => match k with
  | 0 => ("ChannelTracks", "text", "LChannelTracks$Text;", true)
  | 1 => ("ChannelTracks", "pins", "LChannelTracks$Pins;", true)
  | 2 => ("ChannelTracks", "segments", "LChannelTracks$Segments;", true)
  | 3 => ("ChannelTracks", "trial", "LChannelTracks$Segments;", true)
  | 4 => ("ChannelTracks", "cycle", "LChannelTracks$Ring;", true)
  | 5 => ("ChannelTracks", "zones", "LChannelTracks$Zones;", true)
  | 6 => ("ChannelTracks", "plan", "LChannelTracks$Plan;", true)
  | 7 => ("ChannelTracks", "split", "I", false)
  | 8 => ("ChannelTracks", "timesRead", "I", false)
  | _ => ("ChannelTracks", "timesBest", "I", false)
def tyX6 : Nat → FieldType := fun k => match k with
  | 0 => .object "ChannelTracks$Text"
  | 1 => .object "ChannelTracks$Pins"
  | 2 => .object "ChannelTracks$Segments"
  | 3 => .object "ChannelTracks$Segments"
  | 4 => .object "ChannelTracks$Ring"
  | 5 => .object "ChannelTracks$Zones"
  | 6 => .object "ChannelTracks$Plan"
  | 7 => .int
  | 8 => .int
  | _ => .int
theorem nmX6 : ∀ a, a < 10 → ∀ b, b < 10 → a ≠ b → (TX6 a).2.1 ≠ (TX6 b).2.1 := by decide +kernel
theorem tyX6_ok : ∀ k, k < 10 → parseFieldDescriptor (TX6 k).2.2.1 = some (tyX6 k) := by decide +kernel
abbrev cX6_init : ByteArray := prog_1_method_1_code
def yX6_init : MethodName := ⟨RX6, "<init>", "()V"⟩
abbrev cX6_letter : ByteArray := prog_1_method_2_code
def yX6_letter : MethodName := ⟨RX6, "letter", "(I)I"⟩
abbrev cX6_blank : ByteArray := prog_1_method_3_code
def yX6_blank : MethodName := ⟨RX6, "blank", "()I"⟩
abbrev cX6_fault : ByteArray := prog_1_method_4_code
def yX6_fault : MethodName := ⟨RX6, "fault", "(I)I"⟩
abbrev cX6_channel : ByteArray := prog_1_method_5_code
def yX6_channel : MethodName := ⟨RX6, "channel", "()I"⟩
abbrev cX6_say : ByteArray := prog_1_method_6_code
def yX6_say : MethodName := ⟨RX6, "say", "()I"⟩
abbrev cX6_ink : ByteArray := prog_1_method_7_code
def yX6_ink : MethodName := ⟨RX6, "ink", "(I)I"⟩
abbrev cX6_about : ByteArray := prog_1_method_8_code
def yX6_about : MethodName := ⟨RX6, "about", "(I)I"⟩
abbrev cX6_pin : ByteArray := prog_1_method_9_code
def yX6_pin : MethodName := ⟨RX6, "pin", "(II)I"⟩
abbrev cX6_net : ByteArray := prog_1_method_10_code
def yX6_net : MethodName := ⟨RX6, "net", "(II)I"⟩
abbrev cX6_segment : ByteArray := prog_1_method_11_code
def yX6_segment : MethodName := ⟨RX6, "segment", "(II)I"⟩
abbrev cX6_above : ByteArray := prog_1_method_12_code
def yX6_above : MethodName := ⟨RX6, "above", "(II)I"⟩
abbrev cX6_may : ByteArray := prog_1_method_13_code
def yX6_may : MethodName := ⟨RX6, "may", "(II)I"⟩
abbrev cX6_ring : ByteArray := prog_1_method_14_code
def yX6_ring : MethodName := ⟨RX6, "ring", "(I)I"⟩
abbrev cX6_zone : ByteArray := prog_1_method_15_code
def yX6_zone : MethodName := ⟨RX6, "zone", "(I)I"⟩
abbrev cX6_put : ByteArray := prog_1_method_16_code
def yX6_put : MethodName := ⟨RX6, "put", "(III)I"⟩
abbrev cX6_turn : ByteArray := prog_1_method_17_code
def yX6_turn : MethodName := ⟨RX6, "turn", "(I)I"⟩
abbrev cX6_cut : ByteArray := prog_1_method_18_code
def yX6_cut : MethodName := ⟨RX6, "cut", "(IZ)I"⟩
abbrev cX6_set : ByteArray := prog_1_method_19_code
def yX6_set : MethodName := ⟨RX6, "set", "(II)I"⟩
abbrev cX6_clear : ByteArray := prog_1_method_20_code
def yX6_clear : MethodName := ⟨RX6, "clear", "()I"⟩
abbrev cX6_pack : ByteArray := prog_1_method_21_code
def yX6_pack : MethodName := ⟨RX6, "pack", "()I"⟩
abbrev cX6_best : ByteArray := prog_1_method_22_code
def yX6_best : MethodName := ⟨RX6, "best", "()I"⟩
abbrev cX6_cell : ByteArray := prog_1_method_23_code
def yX6_cell : MethodName := ⟨RX6, "cell", "(III)I"⟩
abbrev cX6_count : ByteArray := prog_1_method_24_code
def yX6_count : MethodName := ⟨RX6, "count", "(I)I"⟩
abbrev cX6_digest : ByteArray := prog_1_method_25_code
def yX6_digest : MethodName := ⟨RX6, "digest", "()J"⟩
abbrev cX6_mix : ByteArray := prog_1_method_26_code
def yX6_mix : MethodName := ⟨RX6, "mix", "(JI)J"⟩
abbrev cX6_digestChannel : ByteArray := prog_1_method_27_code
def yX6_digestChannel : MethodName := ⟨RX6, "digestChannel", "(J)J"⟩
abbrev cX6_digestSegments : ByteArray := prog_1_method_28_code
def yX6_digestSegments : MethodName := ⟨RX6, "digestSegments", "(J)J"⟩
abbrev cX6_digestPlan : ByteArray := prog_1_method_29_code
def yX6_digestPlan : MethodName := ⟨RX6, "digestPlan", "(J)J"⟩
abbrev cX6_hasChannel : ByteArray := prog_1_method_30_code
def yX6_hasChannel : MethodName := ⟨RX6, "hasChannel", "()Z"⟩
abbrev cX6_isColumn : ByteArray := prog_1_method_31_code
def yX6_isColumn : MethodName := ⟨RX6, "isColumn", "(I)Z"⟩
abbrev cX6_isSegment : ByteArray := prog_1_method_32_code
def yX6_isSegment : MethodName := ⟨RX6, "isSegment", "(I)Z"⟩
abbrev cX6_isSide : ByteArray := prog_1_method_33_code
def yX6_isSide : MethodName := ⟨RX6, "isSide", "(I)Z"⟩
abbrev cX6_isNet : ByteArray := prog_1_method_34_code
def yX6_isNet : MethodName := ⟨RX6, "isNet", "(I)Z"⟩
abbrev cX6_isSplit : ByteArray := prog_1_method_35_code
def yX6_isSplit : MethodName := ⟨RX6, "isSplit", "(I)Z"⟩
abbrev cX6_isError : ByteArray := prog_1_method_36_code
def yX6_isError : MethodName := ⟨RX6, "isError", "(I)Z"⟩
abbrev cX6_derive : ByteArray := prog_1_method_37_code
def yX6_derive : MethodName := ⟨RX6, "derive", "()V"⟩
abbrev cX6_breakingSet : ByteArray := prog_1_method_38_code
def yX6_breakingSet : MethodName := ⟨RX6, "breakingSet", "()I"⟩
abbrev cX6_inkOf : ByteArray := prog_1_method_39_code
def yX6_inkOf : MethodName := ⟨RX6, "inkOf", "(I)I"⟩
abbrev cX6_lowest : ByteArray := prog_1_method_40_code
def yX6_lowest : MethodName := ⟨RX6, "lowest", "(I)I"⟩
abbrev cX6_highest : ByteArray := prog_1_method_41_code
def yX6_highest : MethodName := ⟨RX6, "highest", "(I)I"⟩
def RX7 : String := "ChannelTracksModel"
def TX7 : u_T := fun k => match k with
  | 0 => ("ChannelTracksModel", "columns", "I", false)
  | 1 => ("ChannelTracksModel", "pins", "[I", true)
  | 2 => ("ChannelTracksModel", "cuts", "I", false)
  | 3 => ("ChannelTracksModel", "channels", "I", false)
  | 4 => ("ChannelTracksModel", "segments", "I", false)
  | 5 => ("ChannelTracksModel", "netOf", "[I", true)
  | 6 => ("ChannelTracksModel", "first", "[I", true)
  | 7 => ("ChannelTracksModel", "last", "[I", true)
  | 8 => ("ChannelTracksModel", "track", "[I", true)
  | 9 => ("ChannelTracksModel", "under", "[I", true)
  | 10 => ("ChannelTracksModel", "far", "[I", true)
  | 11 => ("ChannelTracksModel", "ringLength", "I", false)
  | 12 => ("ChannelTracksModel", "ringOf", "[I", true)
  | 13 => ("ChannelTracksModel", "bests", "I", false)
  | 14 => ("ChannelTracksModel", "pageLength", "I", false)
  | 15 => ("ChannelTracksModel", "page", "[I", true)
  | 16 => ("ChannelTracksModel", "newColumns", "I", false)
  | 17 => ("ChannelTracksModel", "isWhole", "Z", false)
  | 18 => ("ChannelTracksModel", "back", "[I", true)
  | 19 => ("ChannelTracksModel", "levels", "[I", true)
  | _ => ("ChannelTracksModel", "h", "J", false)
def tyX7 : Nat → FieldType := fun k => match k with
  | 0 => .int
  | 1 => .array .int
  | 2 => .int
  | 3 => .int
  | 4 => .int
  | 5 => .array .int
  | 6 => .array .int
  | 7 => .array .int
  | 8 => .array .int
  | 9 => .array .int
  | 10 => .array .int
  | 11 => .int
  | 12 => .array .int
  | 13 => .int
  | 14 => .int
  | 15 => .array .int
  | 16 => .int
  | 17 => .boolean
  | 18 => .array .int
  | 19 => .array .int
  | _ => .long
theorem nmX7 : ∀ a, a < 21 → ∀ b, b < 21 → a ≠ b → (TX7 a).2.1 ≠ (TX7 b).2.1 := by decide +kernel
theorem tyX7_ok : ∀ k, k < 21 → parseFieldDescriptor (TX7 k).2.2.1 = some (tyX7 k) := by decide +kernel
abbrev cX7_init : ByteArray := prog_9_method_1_code
def yX7_init : MethodName := ⟨RX7, "<init>", "()V"⟩
abbrev cX7_within : ByteArray := prog_9_method_3_code
def yX7_within : MethodName := ⟨RX7, "within", "(III)Z"⟩
abbrev cX7_isBit : ByteArray := prog_9_method_4_code
def yX7_isBit : MethodName := ⟨RX7, "isBit", "(II)Z"⟩
abbrev cX7_size : ByteArray := prog_9_method_5_code
def yX7_size : MethodName := ⟨RX7, "size", "(I)I"⟩
abbrev cX7_leastOf : ByteArray := prog_9_method_6_code
def yX7_leastOf : MethodName := ⟨RX7, "leastOf", "(I)I"⟩
abbrev cX7_letter : ByteArray := prog_9_method_7_code
def yX7_letter : MethodName := ⟨RX7, "letter", "(I)I"⟩
abbrev cX7_blank : ByteArray := prog_9_method_8_code
def yX7_blank : MethodName := ⟨RX7, "blank", "()I"⟩
abbrev cX7_isPin : ByteArray := prog_9_method_9_code
def yX7_isPin : MethodName := ⟨RX7, "isPin", "(I)Z"⟩
abbrev cX7_pinsFrom : ByteArray := prog_9_method_10_code
def yX7_pinsFrom : MethodName := ⟨RX7, "pinsFrom", "(II)I"⟩
abbrev cX7_readChannel : ByteArray := prog_9_method_11_code
def yX7_readChannel : MethodName := ⟨RX7, "readChannel", "()I"⟩
abbrev cX7_sayingAt : ByteArray := prog_9_method_12_code
def yX7_sayingAt : MethodName := ⟨RX7, "sayingAt", "(II)I"⟩
abbrev cX7_isAs : ByteArray := prog_9_method_13_code
def yX7_isAs : MethodName := ⟨RX7, "isAs", "(II)Z"⟩
abbrev cX7_likeSaying : ByteArray := prog_9_method_14_code
def yX7_likeSaying : MethodName := ⟨RX7, "likeSaying", "(I)I"⟩
abbrev cX7_readSaying : ByteArray := prog_9_method_15_code
def yX7_readSaying : MethodName := ⟨RX7, "readSaying", "()I"⟩
abbrev cX7_sayingNow : ByteArray := prog_9_method_16_code
def yX7_sayingNow : MethodName := ⟨RX7, "sayingNow", "()I"⟩
abbrev cX7_fault : ByteArray := prog_9_method_17_code
def yX7_fault : MethodName := ⟨RX7, "fault", "(I)I"⟩
abbrev cX7_netBy : ByteArray := prog_9_method_18_code
def yX7_netBy : MethodName := ⟨RX7, "netBy", "(I)I"⟩
abbrev cX7_channel : ByteArray := prog_9_method_19_code
def yX7_channel : MethodName := ⟨RX7, "channel", "()I"⟩
abbrev cX7_saidNow : ByteArray := prog_9_method_20_code
def yX7_saidNow : MethodName := ⟨RX7, "saidNow", "(I)I"⟩
abbrev cX7_say : ByteArray := prog_9_method_21_code
def yX7_say : MethodName := ⟨RX7, "say", "()I"⟩
abbrev cX7_isThere : ByteArray := prog_9_method_22_code
def yX7_isThere : MethodName := ⟨RX7, "isThere", "()Z"⟩
abbrev cX7_top : ByteArray := prog_9_method_23_code
def yX7_top : MethodName := ⟨RX7, "top", "(I)I"⟩
abbrev cX7_bottom : ByteArray := prog_9_method_24_code
def yX7_bottom : MethodName := ⟨RX7, "bottom", "(I)I"⟩
abbrev cX7_hasPin : ByteArray := prog_9_method_25_code
def yX7_hasPin : MethodName := ⟨RX7, "hasPin", "(II)Z"⟩
abbrev cX7_addSegment : ByteArray := prog_9_method_26_code
def yX7_addSegment : MethodName := ⟨RX7, "addSegment", "(III)V"⟩
abbrev cX7_layNet : ByteArray := prog_9_method_27_code
def yX7_layNet : MethodName := ⟨RX7, "layNet", "(IZ)V"⟩
abbrev cX7_isWithin : ByteArray := prog_9_method_28_code
def yX7_isWithin : MethodName := ⟨RX7, "isWithin", "(II)Z"⟩
abbrev cX7_touches : ByteArray := prog_9_method_29_code
def yX7_touches : MethodName := ⟨RX7, "touches", "(II)Z"⟩
abbrev cX7_isAbove : ByteArray := prog_9_method_30_code
def yX7_isAbove : MethodName := ⟨RX7, "isAbove", "(II)Z"⟩
abbrev cX7_isMet : ByteArray := prog_9_method_31_code
def yX7_isMet : MethodName := ⟨RX7, "isMet", "(II)Z"⟩
abbrev cX7_laySegments : ByteArray := prog_9_method_32_code
def yX7_laySegments : MethodName := ⟨RX7, "laySegments", "(I)V"⟩
abbrev cX7_isRing : ByteArray := prog_9_method_33_code
def yX7_isRing : MethodName := ⟨RX7, "isRing", "()Z"⟩
abbrev cX7_layBack : ByteArray := prog_9_method_34_code
def yX7_layBack : MethodName := ⟨RX7, "layBack", "(II)Z"⟩
abbrev cX7_findRing : ByteArray := prog_9_method_35_code
def yX7_findRing : MethodName := ⟨RX7, "findRing", "(I)Z"⟩
abbrev cX7_layRing : ByteArray := prog_9_method_36_code
def yX7_layRing : MethodName := ⟨RX7, "layRing", "()V"⟩
abbrev cX7_layNow : ByteArray := prog_9_method_37_code
def yX7_layNow : MethodName := ⟨RX7, "layNow", "()V"⟩
abbrev cX7_layNew : ByteArray := prog_9_method_38_code
def yX7_layNew : MethodName := ⟨RX7, "layNew", "()V"⟩
abbrev cX7_depth : ByteArray := prog_9_method_39_code
def yX7_depth : MethodName := ⟨RX7, "depth", "()I"⟩
abbrev cX7_isFine : ByteArray := prog_9_method_40_code
def yX7_isFine : MethodName := ⟨RX7, "isFine", "(II)Z"⟩
abbrev cX7_fits : ByteArray := prog_9_method_41_code
def yX7_fits : MethodName := ⟨RX7, "fits", "()Z"⟩
abbrev cX7_flat : ByteArray := prog_9_method_42_code
def yX7_flat : MethodName := ⟨RX7, "flat", "(II)I"⟩
abbrev cX7_upright : ByteArray := prog_9_method_43_code
def yX7_upright : MethodName := ⟨RX7, "upright", "(II)I"⟩
abbrev cX7_clashes : ByteArray := prog_9_method_44_code
def yX7_clashes : MethodName := ⟨RX7, "clashes", "()I"⟩
abbrev cX7_inkLength : ByteArray := prog_9_method_45_code
def yX7_inkLength : MethodName := ⟨RX7, "inkLength", "()I"⟩
abbrev cX7_inkNow : ByteArray := prog_9_method_46_code
def yX7_inkNow : MethodName := ⟨RX7, "inkNow", "(I)I"⟩
abbrev cX7_ink : ByteArray := prog_9_method_47_code
def yX7_ink : MethodName := ⟨RX7, "ink", "(I)I"⟩
abbrev cX7_netsIn : ByteArray := prog_9_method_48_code
def yX7_netsIn : MethodName := ⟨RX7, "netsIn", "(I)I"⟩
abbrev cX7_density : ByteArray := prog_9_method_49_code
def yX7_density : MethodName := ⟨RX7, "density", "()I"⟩
abbrev cX7_isZone : ByteArray := prog_9_method_50_code
def yX7_isZone : MethodName := ⟨RX7, "isZone", "(I)Z"⟩
abbrev cX7_zones : ByteArray := prog_9_method_51_code
def yX7_zones : MethodName := ⟨RX7, "zones", "(I)I"⟩
abbrev cX7_level : ByteArray := prog_9_method_52_code
def yX7_level : MethodName := ⟨RX7, "level", "(I)I"⟩
abbrev cX7_levelOf : ByteArray := prog_9_method_53_code
def yX7_levelOf : MethodName := ⟨RX7, "levelOf", "(I)I"⟩
abbrev cX7_chain : ByteArray := prog_9_method_54_code
def yX7_chain : MethodName := ⟨RX7, "chain", "()I"⟩
abbrev cX7_breakBy : ByteArray := prog_9_method_55_code
def yX7_breakBy : MethodName := ⟨RX7, "breakBy", "(I)I"⟩
abbrev cX7_breakNow : ByteArray := prog_9_method_56_code
def yX7_breakNow : MethodName := ⟨RX7, "breakNow", "()I"⟩
abbrev cX7_aboutNow : ByteArray := prog_9_method_57_code
def yX7_aboutNow : MethodName := ⟨RX7, "aboutNow", "(I)I"⟩
abbrev cX7_about : ByteArray := prog_9_method_58_code
def yX7_about : MethodName := ⟨RX7, "about", "(I)I"⟩
abbrev cX7_isColumn : ByteArray := prog_9_method_59_code
def yX7_isColumn : MethodName := ⟨RX7, "isColumn", "(I)Z"⟩
abbrev cX7_pin : ByteArray := prog_9_method_60_code
def yX7_pin : MethodName := ⟨RX7, "pin", "(II)I"⟩
abbrev cX7_pinsOf : ByteArray := prog_9_method_61_code
def yX7_pinsOf : MethodName := ⟨RX7, "pinsOf", "(I)I"⟩
abbrev cX7_isNetThere : ByteArray := prog_9_method_62_code
def yX7_isNetThere : MethodName := ⟨RX7, "isNetThere", "(I)Z"⟩
abbrev cX7_firstPin : ByteArray := prog_9_method_63_code
def yX7_firstPin : MethodName := ⟨RX7, "firstPin", "(I)I"⟩
abbrev cX7_lastPin : ByteArray := prog_9_method_64_code
def yX7_lastPin : MethodName := ⟨RX7, "lastPin", "(I)I"⟩
abbrev cX7_segmentsOf : ByteArray := prog_9_method_65_code
def yX7_segmentsOf : MethodName := ⟨RX7, "segmentsOf", "(I)I"⟩
abbrev cX7_netNow : ByteArray := prog_9_method_66_code
def yX7_netNow : MethodName := ⟨RX7, "netNow", "(II)I"⟩
abbrev cX7_net : ByteArray := prog_9_method_67_code
def yX7_net : MethodName := ⟨RX7, "net", "(II)I"⟩
abbrev cX7_isSegment : ByteArray := prog_9_method_68_code
def yX7_isSegment : MethodName := ⟨RX7, "isSegment", "(I)Z"⟩
abbrev cX7_overIt : ByteArray := prog_9_method_69_code
def yX7_overIt : MethodName := ⟨RX7, "overIt", "(I)I"⟩
abbrev cX7_segmentNow : ByteArray := prog_9_method_70_code
def yX7_segmentNow : MethodName := ⟨RX7, "segmentNow", "(II)I"⟩
abbrev cX7_segment : ByteArray := prog_9_method_71_code
def yX7_segment : MethodName := ⟨RX7, "segment", "(II)I"⟩
abbrev cX7_above : ByteArray := prog_9_method_72_code
def yX7_above : MethodName := ⟨RX7, "above", "(II)I"⟩
abbrev cX7_isFree : ByteArray := prog_9_method_73_code
def yX7_isFree : MethodName := ⟨RX7, "isFree", "(II)Z"⟩
abbrev cX7_may : ByteArray := prog_9_method_74_code
def yX7_may : MethodName := ⟨RX7, "may", "(II)I"⟩
abbrev cX7_ring : ByteArray := prog_9_method_75_code
def yX7_ring : MethodName := ⟨RX7, "ring", "(I)I"⟩
abbrev cX7_zone : ByteArray := prog_9_method_76_code
def yX7_zone : MethodName := ⟨RX7, "zone", "(I)I"⟩
abbrev cX7_put : ByteArray := prog_9_method_77_code
def yX7_put : MethodName := ⟨RX7, "put", "(III)I"⟩
abbrev cX7_turn : ByteArray := prog_9_method_78_code
def yX7_turn : MethodName := ⟨RX7, "turn", "(I)I"⟩
abbrev cX7_cut : ByteArray := prog_9_method_79_code
def yX7_cut : MethodName := ⟨RX7, "cut", "(IZ)I"⟩
abbrev cX7_set : ByteArray := prog_9_method_80_code
def yX7_set : MethodName := ⟨RX7, "set", "(II)I"⟩
abbrev cX7_withTrack : ByteArray := prog_9_method_81_code
def yX7_withTrack : MethodName := ⟨RX7, "withTrack", "()I"⟩
abbrev cX7_clearNow : ByteArray := prog_9_method_82_code
def yX7_clearNow : MethodName := ⟨RX7, "clearNow", "()I"⟩
abbrev cX7_clear : ByteArray := prog_9_method_83_code
def yX7_clear : MethodName := ⟨RX7, "clear", "()I"⟩
abbrev cX7_mayCome : ByteArray := prog_9_method_84_code
def yX7_mayCome : MethodName := ⟨RX7, "mayCome", "(II)Z"⟩
abbrev cX7_nextFor : ByteArray := prog_9_method_85_code
def yX7_nextFor : MethodName := ⟨RX7, "nextFor", "(I)I"⟩
abbrev cX7_pack : ByteArray := prog_9_method_86_code
def yX7_pack : MethodName := ⟨RX7, "pack", "()I"⟩
abbrev cX7_goesOn : ByteArray := prog_9_method_87_code
def yX7_goesOn : MethodName := ⟨RX7, "goesOn", "(I)Z"⟩
abbrev cX7_findPlan : ByteArray := prog_9_method_88_code
def yX7_findPlan : MethodName := ⟨RX7, "findPlan", "(I)Z"⟩
abbrev cX7_best : ByteArray := prog_9_method_89_code
def yX7_best : MethodName := ⟨RX7, "best", "()I"⟩
abbrev cX7_cell : ByteArray := prog_9_method_90_code
def yX7_cell : MethodName := ⟨RX7, "cell", "(III)I"⟩
abbrev cX7_netsThere : ByteArray := prog_9_method_91_code
def yX7_netsThere : MethodName := ⟨RX7, "netsThere", "()I"⟩
abbrev cX7_howMany : ByteArray := prog_9_method_92_code
def yX7_howMany : MethodName := ⟨RX7, "howMany", "(I)I"⟩
abbrev cX7_count : ByteArray := prog_9_method_93_code
def yX7_count : MethodName := ⟨RX7, "count", "(I)I"⟩
abbrev cX7_mix : ByteArray := prog_9_method_94_code
def yX7_mix : MethodName := ⟨RX7, "mix", "(J)V"⟩
abbrev cX7_mixSegments : ByteArray := prog_9_method_95_code
def yX7_mixSegments : MethodName := ⟨RX7, "mixSegments", "()V"⟩
abbrev cX7_mixChannel : ByteArray := prog_9_method_96_code
def yX7_mixChannel : MethodName := ⟨RX7, "mixChannel", "()V"⟩
abbrev cX7_digest : ByteArray := prog_9_method_97_code
def yX7_digest : MethodName := ⟨RX7, "digest", "()J"⟩
def RJ6 : String := "java/lang/Integer"
abbrev cJ6_bitCount_0f7a4 : ByteArray := prog_10_method_49_code
def yJ6_bitCount_0f7a4 : MethodName := ⟨RJ6, "bitCount", "(I)I"⟩
def RJ9 : String := "java/lang/Math"
abbrev cJ9_max_7cf53 : ByteArray := prog_11_method_65_code
def yJ9_max_7cf53 : MethodName := ⟨RJ9, "max", "(II)I"⟩
abbrev cJ9_min_7cf53 : ByteArray := prog_11_method_69_code
def yJ9_min_7cf53 : MethodName := ⟨RJ9, "min", "(II)I"⟩
def RJ0 : String := "java/lang/String"
abbrev cJ0_length_8abf5 : ByteArray := prog_12_method_54_code
def yJ0_length_8abf5 : MethodName := ⟨RJ0, "length", "()I"⟩
abbrev cJ0_charAt_5068e : ByteArray := prog_12_method_56_code
def yJ0_charAt_5068e : MethodName := ⟨RJ0, "charAt", "(I)C"⟩
abbrev cJ0_coder_7d493 : ByteArray := prog_12_method_152_code
def yJ0_coder_7d493 : MethodName := ⟨RJ0, "coder", "()B"⟩
abbrev cJ0_isLatin1_aae02 : ByteArray := prog_12_method_154_code
def yJ0_isLatin1_aae02 : MethodName := ⟨RJ0, "isLatin1", "()Z"⟩
abbrev cJ0_checkIndex_df160 : ByteArray := prog_12_method_155_code
def yJ0_checkIndex_df160 : MethodName := ⟨RJ0, "checkIndex", "(II)V"⟩
def RJ1 : String := "java/lang/StringLatin1"
abbrev cJ1_charAt_3b067 : ByteArray := prog_13_method_2_code
def yJ1_charAt_3b067 : MethodName := ⟨RJ1, "charAt", "([BI)C"⟩
def RJ2 : String := "java/lang/StringUTF16"
abbrev cJ2_getChar_3b067 : ByteArray := prog_14_method_5_code
def yJ2_getChar_3b067 : MethodName := ⟨RJ2, "getChar", "([BI)C"⟩
abbrev cJ2_length_9d52b : ByteArray := prog_14_method_6_code
def yJ2_length_9d52b : MethodName := ⟨RJ2, "length", "([B)I"⟩
abbrev cJ2_charAt_3b067 : ByteArray := prog_14_method_83_code
def yJ2_charAt_3b067 : MethodName := ⟨RJ2, "charAt", "([BI)C"⟩
abbrev cJ2_checkIndex_2214a : ByteArray := prog_14_method_91_code
def yJ2_checkIndex_2214a : MethodName := ⟨RJ2, "checkIndex", "(I[B)V"⟩
def RJ3 : String := "jdk/internal/util/Preconditions"
abbrev cJ3_checkIndex_8e157 : ByteArray := prog_15_method_11_code
def yJ3_checkIndex_8e157 : MethodName := ⟨RJ3, "checkIndex", "(IILjava/util/function/BiFunction;)I"⟩
def RL : String := "ChannelTracksLaw"
abbrev CL : List vw_C := [(RX0, TX0, 2), (RX1, TX1, 1), (RX2, TX2, 2), (RX3, TX3, 10), (RX4, TX4, 2), (RX5, TX5, 4), (RX6, TX6, 10), (RX7, TX7, 21)]
end
section
/-! the words that are kept over a call -/
def xT : List Cond := lw_tbl.filter goodWord
theorem xT_in {w : Cond} (h : w ∈ xT) : w ∈ lw_tbl := (List.mem_filter.mp h).1
theorem xT_of {w : Cond} (i : Nat) (h : lw_tbl[i]? = some w) (g : goodWord w = true) : w ∈ xT := List.mem_filter.mpr ⟨List.mem_of_getElem? h, g⟩
theorem xT_good {w : Cond} (h : w ∈ xT) : goodWord w = true := (List.mem_filter.mp h).2
theorem x_GoodIn {ws : List Cond} (h : ∀ w ∈ ws, w ∈ xT) : GoodIn xT ws := fun w hw => ⟨h w hw, good_of_word (xT_good (h w hw))⟩
/-! ===== the pure state: ints by cell and place, one long ===== -/
abbrev xSt : Type := (Nat → Nat → Int32) × Int64
abbrev xCl : Type := Nat ⊕ (Nat × List (Option Nat × Bool))
abbrev xSh : Type := List xCl
def up2 (σ : xSt) (c k : Nat) (v : Int32) : xSt := (fun c' => if c' = c then upd (σ.1 c) k v else σ.1 c', σ.2)
def upl (σ : xSt) (v : Int64) : xSt := (σ.1, v)
def x_fv (ad : Nat → Nat) (σ : xSt) (i k : Nat) (f : Option Nat × Bool) : Value := match f with
  | (some j, _) => .ref (ad j)
  | (none, false) => .int (σ.1 i k)
  | (none, true) => .long σ.2
def x_ce (ad : Nat → Nat) (cI : ClassId) (σ : xSt) (i : Nat) (c : xCl) : va_E := match c with
  | .inl n => .inl (cI, n, .inl (σ.1 i))
  | .inr o => .inr (o.1, o.2.mapIdx (fun k f => x_fv ad σ i k f))
def x_w (ad : Nat → Nat) (cI : ClassId) (sh : xSh) (σ : xSt) : va_W := sh.mapIdx (fun i c => (ad i, x_ce ad cI σ i c))
theorem x_w_at {ad : Nat → Nat} {cI : ClassId} {sh : xSh} {σ : xSt} {i : Nat} {c : xCl} (h : sh[i]? = some c) : (x_w ad cI sh σ)[i]? = some (ad i, x_ce ad cI σ i c) := by
  simp [x_w, h]
theorem x_w_inv {ad : Nat → Nat} {cI : ClassId} {sh : xSh} {σ : xSt} {i : Nat} {q : Nat × va_E} (h : (x_w ad cI sh σ)[i]? = some q) : ∃ c, sh[i]? = some c ∧ q = (ad i, x_ce ad cI σ i c) := by
  simp only [x_w, List.getElem?_mapIdx, Option.map_eq_some_iff] at h
  obtain ⟨c, h1, h2⟩ := h
  exact ⟨c, h1, h2.symm⟩
theorem x_D {ad : Nat → Nat} {cI : ClassId} {sh : xSh} {σ σ' : xSt} {A : Nat → Prop} (h : va_D A (x_w ad cI sh σ)) : va_D A (x_w ad cI sh σ') := by
  refine ⟨fun i j p q hp hq e => ?_, fun k q hq => ?_⟩
  · obtain ⟨c, h1, rfl⟩ := x_w_inv hp
    obtain ⟨d, h2, rfl⟩ := x_w_inv hq
    exact h.1 i j _ _ (x_w_at h1) (x_w_at h2) e
  · obtain ⟨c, h1, rfl⟩ := x_w_inv hq
    have h2 := h.2 k _ (x_w_at (ad := ad) (cI := cI) (σ := σ) h1)
    exact h2
theorem x_A {ad : Nat → Nat} {cI : ClassId} {sh : xSh} {σ σ' : xSt} {sz q : Nat} (h : va_A (x_w ad cI sh σ) sz q) : va_A (x_w ad cI sh σ') sz q := by
  rcases h with ⟨k, e, h⟩ | h
  · obtain ⟨c, h1, h2⟩ := x_w_inv h
    cases h2
    exact Or.inl ⟨k, _, x_w_at h1⟩
  · exact Or.inr h
/-- a store into a row of ints -/
theorem x_w_ast {ad : Nat → Nat} {cI : ClassId} {sh : xSh} {σ : xSt} {c n : Nat} (h : sh[c]? = some (.inl n)) (k : Nat) (v : Int32) : (x_w ad cI sh σ).set c (ad c, .inl (cI, n, .inl (upd (σ.1 c) k v))) = x_w ad cI sh (up2 σ c k v) := by
  apply List.ext_getElem?
  intro i
  by_cases hi : i = c
  · subst hi
    rw [x_w_at h]
    have hl : i < (x_w ad cI sh σ).length := by simp [x_w]; exact (List.getElem?_eq_some_iff.mp h).1
    rw [List.getElem?_set_self hl]
    simp [x_ce, up2]
  · rw [List.getElem?_set_ne (fun e => hi e.symm)]
    simp only [x_w, List.getElem?_mapIdx]
    cases hs : sh[i]? with
    | none => rfl
    | some d =>
      cases d with
      | inl n => simp [x_ce, up2, hi]
      | inr o =>
        simp only [Option.map_some, x_ce]
        have e : (fun k f => x_fv ad σ i k f) = (fun j f => x_fv ad (up2 σ c k v) i j f) := by
          funext j f
          simp only [x_fv, up2, hi, if_false]
        rw [e]
/-- a store into an int field -/
theorem x_w_fst {ad : Nat → Nat} {cI : ClassId} {sh : xSh} {σ : xSt} {c k ci : Nat} {fs : List (Option Nat × Bool)} (h : sh[c]? = some (.inr (ci, fs))) (hf : fs[k]? = some (none, false)) (v : Int32) : (x_w ad cI sh σ).set c (ad c, .inr (ci, (fs.mapIdx (fun k f => x_fv ad σ c k f)).set k (.int v))) = x_w ad cI sh (up2 σ c k v) := by
  apply List.ext_getElem?
  intro i
  by_cases hi : i = c
  · subst hi
    rw [x_w_at h]
    have hl : i < (x_w ad cI sh σ).length := by simp [x_w]; exact (List.getElem?_eq_some_iff.mp h).1
    rw [List.getElem?_set_self hl]
    simp only [x_ce]
    congr 4
    apply List.ext_getElem?
    intro j
    by_cases hj : j = k
    · subst hj
      have hl2 : j < (fs.mapIdx (fun k f => x_fv ad σ i k f)).length := by simp; exact (List.getElem?_eq_some_iff.mp hf).1
      rw [List.getElem?_set_self hl2]
      simp [hf, x_fv, up2, upd]
    · rw [List.getElem?_set_ne (fun e => hj e.symm)]
      simp only [List.getElem?_mapIdx]
      cases hs : fs[j]? with
      | none => rfl
      | some f =>
        obtain ⟨a, b⟩ := f
        cases a <;> cases b <;> simp [x_fv, up2, upd, hj]
  · rw [List.getElem?_set_ne (fun e => hi e.symm)]
    simp only [x_w, List.getElem?_mapIdx]
    cases hs : sh[i]? with
    | none => rfl
    | some d =>
      cases d with
      | inl n => simp [x_ce, up2, hi]
      | inr o =>
        simp only [Option.map_some, x_ce]
        have e : (fun k f => x_fv ad σ i k f) = (fun j f => x_fv ad (up2 σ c k v) i j f) := by
          funext j f
          simp only [x_fv, up2, hi, if_false]
        rw [e]
/-- a store into the long field -/
theorem x_w_lst {ad : Nat → Nat} {cI : ClassId} {sh : xSh} {σ : xSt} {c k ci : Nat} {fs : List (Option Nat × Bool)} (h : sh[c]? = some (.inr (ci, fs))) (hf : fs[k]? = some (none, true))
    (hu : ∀ (i ci2 : Nat) (g : List (Option Nat × Bool)) (j : Nat), sh[i]? = some (.inr (ci2, g)) → g[j]? = some (none, true) → i = c ∧ j = k) (v : Int64) : (x_w ad cI sh σ).set c (ad c, .inr (ci, (fs.mapIdx (fun k f => x_fv ad σ c k f)).set k (.long v))) = x_w ad cI sh (upl σ v) := by
  apply List.ext_getElem?
  intro i
  by_cases hi : i = c
  · subst hi
    rw [x_w_at h]
    have hl : i < (x_w ad cI sh σ).length := by simp [x_w]; exact (List.getElem?_eq_some_iff.mp h).1
    rw [List.getElem?_set_self hl]
    simp only [x_ce]
    congr 4
    apply List.ext_getElem?
    intro j
    by_cases hj : j = k
    · subst hj
      have hl2 : j < (fs.mapIdx (fun k f => x_fv ad σ i k f)).length := by simp; exact (List.getElem?_eq_some_iff.mp hf).1
      rw [List.getElem?_set_self hl2]
      simp [hf, x_fv, upl]
    · rw [List.getElem?_set_ne (fun e => hj e.symm)]
      simp only [List.getElem?_mapIdx]
      cases hs : fs[j]? with
      | none => rfl
      | some f =>
        obtain ⟨a, b⟩ := f
        cases a with
        | some a => rfl
        | none =>
          cases b with
          | false => rfl
          | true => exact absurd (hu i ci fs j h hs).2 hj
  · rw [List.getElem?_set_ne (fun e => hi e.symm)]
    simp only [x_w, List.getElem?_mapIdx]
    cases hs : sh[i]? with
    | none => rfl
    | some d =>
      cases d with
      | inl n => rfl
      | inr o =>
        simp only [Option.map_some, x_ce]
        have e : o.2.mapIdx (fun k f => x_fv ad σ i k f) = o.2.mapIdx (fun j f => x_fv ad (upl σ v) i j f) := by
          apply List.ext_getElem?
          intro j
          simp only [List.getElem?_mapIdx]
          cases hg : o.2[j]? with
          | none => rfl
          | some f =>
            obtain ⟨a, b⟩ := f
            cases a with
            | some a => rfl
            | none =>
              cases b with
              | false => rfl
              | true => exact absurd (hu i o.1 o.2 j hs hg).1 hi
        rw [e]
/-! ===== values and locals: a reference is the number of its cell ===== -/
def x_v (ad : Nat → Nat) (v : Value) : Value := match v with
  | .ref i => .ref (ad i)
  | w => w
theorem x_v_cat (ad : Nat → Nat) (v : Value) : (x_v ad v).category = v.category := by cases v <;> rfl
def x_L (ad : Nat → Nat) (nL : Nat) (L : List (Option Value)) (ls : Array Slot) : Prop := ls.size = nL ∧ lv_wf ls ∧ ∀ (i : Nat) (v : Value), L[i]? = some (some v) → ls[i]? = some (.val (x_v ad v))
def x_lv (ad : Nat → Nat) (L : List (Option Value)) : List (Nat × Value) := (List.range L.length).filterMap (fun i => (L[i]?.join).map (fun v => (i, x_v ad v)))
theorem x_lv_mem {ad : Nat → Nat} {L : List (Option Value)} {q : Nat × Value} : q ∈ x_lv ad L ↔ ∃ v, L[q.1]? = some (some v) ∧ q.2 = x_v ad v := by
  simp only [x_lv, List.mem_filterMap, List.mem_range, Option.map_eq_some_iff]
  constructor
  · rintro ⟨i, hi, v, hv, rfl⟩
    refine ⟨v, ?_, rfl⟩
    cases h : L[i]? with
    | none => rw [h] at hv; cases hv
    | some w => rw [h] at hv; exact congrArg some hv
  · rintro ⟨v, hv, h2⟩
    refine ⟨q.1, (List.getElem?_eq_some_iff.mp hv).1, v, by rw [hv]; rfl, ?_⟩
    rw [← h2]
theorem x_L.has {ad : Nat → Nat} {nL : Nat} {L : List (Option Value)} {ls : Array Slot} (h : x_L ad nL L ls) : lv_has ls nL (x_lv ad L) := by
  refine ⟨h.1, h.2.1, fun q hq => ?_⟩
  obtain ⟨v, h1, h2⟩ := x_lv_mem.mp hq
  rw [h2]
  exact h.2.2 _ _ h1
/-- no long begins just ahead of i -/
def x_nl (L : List (Option Value)) (i : Nat) : Bool := match i with
  | 0 => true
  | j + 1 => match L[j]? with
    | some (some v) => v.category == 1
    | _ => true
theorem x_L.st1 {ad : Nat → Nat} {nL i : Nat} {L : List (Option Value)} {ls' : Array Slot} {v : Value} (hn : x_nl L i = true) (h : lv_has ls' nL ((i, x_v ad v) :: (x_lv ad L).filter (fun q => !(q.1 == i) && !(q.1 + 1 == i && q.2.category == 2)))) : x_L ad nL (L.set i (some v)) ls' := by
  refine ⟨h.1, h.2.1, fun j w hj => ?_⟩
  by_cases hji : j = i
  · subst hji
    rw [List.getElem?_set_self (by
      have h1 := (List.getElem?_eq_some_iff.mp hj).1
      simpa using h1)] at hj
    cases hj
    exact h.2.2 (j, x_v ad v) (List.mem_cons_self)
  · rw [List.getElem?_set_ne (fun e => hji e.symm)] at hj
    refine h.2.2 (j, x_v ad w) (List.mem_cons_of_mem _ (List.mem_filter.mpr ⟨x_lv_mem.mpr ⟨w, hj, rfl⟩, ?_⟩))
    simp only [Bool.and_eq_true, Bool.not_eq_true', beq_eq_false_iff_ne, ne_eq, Bool.and_eq_false_iff, x_v_cat]
    refine ⟨hji, ?_⟩
    by_cases h1 : j + 1 = i
    · right
      subst h1
      simp only [x_nl, hj, beq_iff_eq] at hn
      rw [hn]; decide
    · left; exact h1
theorem x_L.st2 {ad : Nat → Nat} {nL i : Nat} {L : List (Option Value)} {ls' : Array Slot} {v : Value} (hn : x_nl L i = true) (h : lv_has ls' nL ((i, x_v ad v) :: (x_lv ad L).filter (fun q => !(q.1 == i) && (!(q.1 == i + 1) && !(q.1 + 1 == i && q.2.category == 2))))) : x_L ad nL ((L.set (i + 1) none).set i (some v)) ls' := by
  refine ⟨h.1, h.2.1, fun j w hj => ?_⟩
  by_cases hji : j = i
  · subst hji
    rw [List.getElem?_set_self (by
      have h1 := (List.getElem?_eq_some_iff.mp hj).1
      simpa using h1)] at hj
    cases hj
    exact h.2.2 (j, x_v ad v) (List.mem_cons_self)
  · rw [List.getElem?_set_ne (fun e => hji e.symm)] at hj
    by_cases hj2 : j = i + 1
    · subst hj2
      rw [List.getElem?_set_self (by
        have h1 := (List.getElem?_eq_some_iff.mp hj).1
        simpa using h1)] at hj
      cases hj
    rw [List.getElem?_set_ne (fun e => hj2 e.symm)] at hj
    refine h.2.2 (j, x_v ad w) (List.mem_cons_of_mem _ (List.mem_filter.mpr ⟨x_lv_mem.mpr ⟨w, hj, rfl⟩, ?_⟩))
    simp only [Bool.and_eq_true, Bool.not_eq_true', beq_eq_false_iff_ne, ne_eq, Bool.and_eq_false_iff, x_v_cat]
    refine ⟨hji, hj2, ?_⟩
    by_cases h1 : j + 1 = i
    · right
      subst h1
      simp only [x_nl, hj, beq_iff_eq] at hn
      rw [hn]; decide
    · left; exact h1
/-- fewer locals are known -/
def x_le : List (Option Value) → List (Option Value) → Prop
  | [], _ => True
  | _ :: _, [] => False
  | none :: a, _ :: b => x_le a b
  | some v :: a, w :: b => w = some v ∧ x_le a b
theorem x_le_at : ∀ {a b : List (Option Value)}, x_le a b → ∀ (i : Nat) (v : Value), a[i]? = some (some v) → b[i]? = some (some v)
  | [], _, _, i, v, h => by simp at h
  | _ :: _, [], hl, _, _, _ => by simp [x_le] at hl
  | none :: a, _ :: b, hl, 0, v, h => by simp at h
  | none :: a, _ :: b, hl, i + 1, v, h => by
    simp only [List.getElem?_cons_succ] at h ⊢
    exact x_le_at (a := a) (b := b) hl i v h
  | some u :: a, w :: b, hl, 0, v, h => by
    obtain ⟨rfl, _⟩ := hl
    simpa using h
  | some u :: a, w :: b, hl, i + 1, v, h => by
    simp only [List.getElem?_cons_succ] at h ⊢
    exact x_le_at hl.2 i v h
theorem x_L.le {ad : Nat → Nat} {nL : Nat} {a b : List (Option Value)} {ls : Array Slot} (h : x_L ad nL b ls) (hl : x_le a b) : x_L ad nL a ls := ⟨h.1, h.2.1, fun i v hi => h.2.2 i v (x_le_at hl i v hi)⟩
/-- the locals at a method's entry -/
def x_ent (av : List Value) : List (Option Value) := av.flatMap fun v => if v.category = 2 then [some v, none] else [some v]
theorem x_ent_args (ad : Nat → Nat) : ∀ (av : List Value) (n i : Nat) (v : Value), (x_ent av)[i]? = some (some v) → (n + i, x_v ad v) ∈ lv_args n (av.map (x_v ad))
  | [], _, i, v, h => by simp [x_ent] at h
  | w :: av, n, i, v, h => by
    simp only [List.map_cons, lv_args, x_v_cat]
    by_cases hc : w.category = 2
    · rw [if_pos hc]
      have e : x_ent (w :: av) = some w :: none :: x_ent av := by simp [x_ent, hc]
      rw [e] at h
      match i, h with
      | 0, h => simp at h; subst h; simp
      | 1, h => simp at h
      | i + 2, h =>
        simp only [List.getElem?_cons_succ] at h
        refine List.mem_cons_of_mem _ ?_
        have h2 := x_ent_args ad av (n + 2) i v h
        rwa [show n + (i + 2) = n + 2 + i by omega]
    · rw [if_neg hc]
      have e : x_ent (w :: av) = some w :: x_ent av := by simp [x_ent, hc]
      rw [e] at h
      match i, h with
      | 0, h => simp at h; subst h; simp
      | i + 1, h =>
        simp only [List.getElem?_cons_succ] at h
        refine List.mem_cons_of_mem _ ?_
        have h2 := x_ent_args ad av (n + 1) i v h
        rwa [show n + (i + 1) = n + 1 + i by omega]
/-! ===== what stands of the String constants (only where b) ===== -/
def x_E (b : Bool) (ad : Nat → Nat) (A : Nat → Prop) (U : State) (H : Heap) : Prop := b = true → (∀ k : Nat, k < 6 → vk_R RX4 ([52, 54, 56, 58, 60, 62].getD k 0) (["pack", "best", "clear", "cut ?", "whole ?", "turn #"].getD k "") (ad (100 + k)) U) ∧
  (∃ adV : Nat → Nat, vk_S 6 [4, 4, 5, 5, 7, 6] [[112, 97, 99, 107], [98, 101, 115, 116], [99, 108, 101, 97, 114], [99, 117, 116, 32, 63], [119, 104, 111, 108, 101, 32, 63], [116, 117, 114, 110, 32, 35]] (fun k => ad (100 + k)) adV A U H) ∧
  va_Z "java/lang/String" "COMPACT_STRINGS" "Z" (.int 1) A U H ∧ va_Zq "jdk/internal/util/Preconditions" "SIOOBE_FORMATTER" "Ljava/util/function/BiFunction;" A U H ∧
  va_Nw (.methodLinkNest RX3 55 yX6_lowest "ChannelTracks") U ∧ va_Nw (.methodLinkNest RX3 58 yX6_highest "ChannelTracks") U
end
section
/-! ===== moves of what stands of the Strings ===== -/
theorem x_E.go {b : Bool} {ad : Nat → Nat} {A B : Nat → Prop} {s U : State} {H : Heap} (h : x_E b ad A s s.heap) (hW : s.WarmedH U.vm) (hq : ∀ a : Nat, a < s.heap.size → ¬ A a → H[a]? = s.heap[a]?) (hAB : ∀ q, B q → A q) : x_E b ad B U H := by
  intro hb
  obtain ⟨h1, ⟨adV, h2⟩, h3, h4, h5, h6⟩ := h hb
  exact ⟨fun k hk => vk_R.warm hW (h1 k hk), ⟨adV, ((h2.kept hq).moved hW.alike).narrow hAB⟩, ((h3.kept hq).moved hW.alike).narrow hAB, ((h4.kept hq).moved hW.alike).narrow hAB, va_Nw.warmM hW h5, va_Nw.warmM hW h6⟩
theorem x_E.calling {b : Bool} {ad : Nat → Nat} {A : Nat → Prop} {U : State} {g : JFrame} {mk : MethodId} {a : Array Value} {H : Heap} (h : x_E b ad A U H) : x_E b ad A (U.calling g mk a) H := by
  intro hb
  obtain ⟨h1, ⟨adV, h2⟩, h3, h4, h5, h6⟩ := h hb
  exact ⟨fun k hk => vk_R.same (u := U) rfl (h1 k hk), ⟨adV, vk_S.moved (u := U) (Vm.Alike.refl U.vm) h2⟩, va_Z.moved (u := U) (Vm.Alike.refl U.vm) h3, va_Zq.moved (u := U) (Vm.Alike.refl U.vm) h4, va_Nw.same rfl (u := U) rfl h5, va_Nw.same rfl (u := U) rfl h6⟩
/-! ===== the judgement ===== -/
abbrev xM : Type := String × ByteArray × Nat × Option FieldType
def x_rm (h : Nat) : Room := { frames := h, cells := 0, slots := 0, locals := 64 * h }
def x_C (M : xM) (p : Program) (s : State) (m : MethodId) (args : Array Value) (meth : Method) (c : Code) : Prop :=
  p.tables.exec = Jvm.exec ∧ c.code = M.2.1 ∧ meth.sig.returnType = M.2.2.2 ∧ c.maxLocals = M.2.2.1 ∧ s.vm.findClass M.1 = some m.cls ∧ meth.locks = false ∧ ∀ w ∈ xT, w.before args s = true
def x_Q (D : va_G) (ad : Nat → Nat) (cI : ClassId) (sh : xSh) (A : Nat → Prop) (rv : Option Value) (σ' : xSt) : Array Value → State → Outcome → State → Prop := fun _ st oc t =>
  oc = .returned (rv.map (x_v ad)) ∧ va_P D CL (x_w ad cI sh σ') t.heap ∧ va_K D CL [(cI, .int)] t ∧ va_F A st t
def XP {ρ : Type} (κ : ρ → Option Value) (b : Bool) (M : xM) (h : Nat) (sh : xSh) (pc : Nat) (L : List (Option Value)) (S : List Value) (σ : xSt) (o : Option (ρ × xSt)) : Prop :=
  ∀ (r : ρ) (σ' : xSt), o = some (r, σ') →
  ∀ (p : Program) (l : Launch) (e : Env) (s : State) (m : MethodId) (args : Array Value) (below : List Frame) (meth : Method) (c : Code) (D : va_G) (ad : Nat → Nat) (cI : ClassId) (A : Nat → Prop),
    x_C M p s m args meth c → va_K D CL [(cI, .int)] s → va_D A (x_w ad cI sh σ) → (∀ q, s.heap.size ≤ q → A q) → x_E b ad A s s.heap →
    ∀ (H : Heap) (locs : List Loc) (ls : Array Slot), va_P D CL (x_w ad cI sh σ) H → va_S A s.heap H locs → x_L ad M.2.2.1 L ls →
      W p l e (x_rm h) s m args below meth c H locs 0 0 (MQ below (x_Q D ad cI sh A (κ r) σ') args s 0 0 A) (F0 m pc ls (S.map (x_v ad)))
abbrev κi (r : Int32) : Option Value := some (.int r)
abbrev κl (r : Int64) : Option Value := some (.long r)
abbrev κv (_ : Unit) : Option Value := none
abbrev κa (r : Nat) : Option Value := some (.ref r)
/-! the pure words -/
def bnd {ρ α : Type} (o : Option (ρ × xSt)) (k : ρ → xSt → Option α) : Option α := match o with
  | none => none
  | some q => k q.1 q.2
def gi {α : Type} (i : Int32) (n : Nat) (o : Option α) : Option α := if i < 0 ∨ n ≤ i.toNatClampNeg then none else o
def gz {α : Type} (y : Int32) (o : Option α) : Option α := if y = 0 then none else o
def gb {α : Type} (v : Int32) (o : Option α) : Option α := if v = 0 ∨ v = 1 then o else none
def jn {α β : Type} (k : α) (R : α → β) : β := R k
section XR
variable {ρ : Type} {κ : ρ → Option Value} {b : Bool} {M : xM} {h : Nat} {sh : xSh} {pc : Nat} {L : List (Option Value)} {S : List Value} {σ : xSt} {o o1 o2 : Option (ρ × xSt)}
theorem x_none : XP κ b M h sh pc L S σ none := by
  intro r σ' ho
  cases ho
theorem x_sub {L' : List (Option Value)} (hl : x_le L' L) (k : XP κ b M h sh pc L' S σ o) : XP κ b M h sh pc L S σ o := by
  intro r σ' ho p l e s m args below meth c D ad cI A hC hK hD hA hE H locs ls hP hS hL
  exact k r σ' ho p l e s m args below meth c D ad cI A hC hK hD hA hE H locs ls hP hS (hL.le hl)
theorem x_ite {c : Prop} [Decidable c] (k1 : c → XP κ b M h sh pc L S σ o1) (k2 : ¬ c → XP κ b M h sh pc L S σ o2) : XP κ b M h sh pc L S σ (if c then o1 else o2) := by
  by_cases hc : c
  · rw [if_pos hc]; exact k1 hc
  · rw [if_neg hc]; exact k2 hc
theorem x_jn {α : Type} {k : α → xSt → Option (ρ × xSt)} {R : (α → xSt → Option (ρ × xSt)) → Option (ρ × xSt)} (pcJ : Nat) (LJ : α → List (Option Value)) (SJ : α → List Value)
    (hJ : ∀ (v : α) (σ' : xSt), XP κ b M h sh pcJ (LJ v) (SJ v) σ' (k v σ')) (hR : ∀ k' : α → xSt → Option (ρ × xSt), (∀ (v : α) (σ' : xSt), XP κ b M h sh pcJ (LJ v) (SJ v) σ' (k' v σ')) → XP κ b M h sh pc L S σ (R k')) : XP κ b M h sh pc L S σ (jn k R) := hR k hJ
theorem x_bj {α : Type} {k : α → xSt → Option (ρ × xSt)} {R : Option (α × xSt)} (pcJ : Nat) (LJ : α → List (Option Value)) (SJ : α → List Value)
    (hJ : ∀ (v : α) (σ' : xSt), XP κ b M h sh pcJ (LJ v) (SJ v) σ' (k v σ')) (hR : ∀ k' : α → xSt → Option (ρ × xSt), (∀ (v : α) (σ' : xSt), XP κ b M h sh pcJ (LJ v) (SJ v) σ' (k' v σ')) → XP κ b M h sh pc L S σ (bnd R k')) : XP κ b M h sh pc L S σ (bnd R k) := hR k hJ
/-! plain instructions -/
theorem x_iconst {n : Int} {v : Int32} (hd : decode M.2.1 pc = .ok (.iconst n, 1)) (hv : Int32.ofInt n = v) (k : XP κ b M h sh (pc + 1) L (.int v :: S) σ o) : XP κ b M h sh pc L S σ o := by
  intro r σ' ho p l e s m args below meth c D ad cI A hC hK hD hA hE H locs ls hP hS hL
  exact lv_iconst hC.1 hC.2.1 hd hv (k r σ' ho p l e s m args below meth c D ad cI A hC hK hD hA hE H locs ls hP hS hL)
theorem x_bipush {n : Int} {v : Int32} (hd : decode M.2.1 pc = .ok (.bipush n, 2)) (hv : (Int8.ofInt n).toInt32 = v) (k : XP κ b M h sh (pc + 2) L (.int v :: S) σ o) : XP κ b M h sh pc L S σ o := by
  intro r σ' ho p l e s m args below meth c D ad cI A hC hK hD hA hE H locs ls hP hS hL
  exact lv_bipush hC.1 hC.2.1 hd hv (k r σ' ho p l e s m args below meth c D ad cI A hC hK hD hA hE H locs ls hP hS hL)
theorem x_sipush {n : Int} {v : Int32} (hd : decode M.2.1 pc = .ok (.sipush n, 3)) (hv : (Int16.ofInt n).toInt32 = v) (k : XP κ b M h sh (pc + 3) L (.int v :: S) σ o) : XP κ b M h sh pc L S σ o := by
  intro r σ' ho p l e s m args below meth c D ad cI A hC hK hD hA hE H locs ls hP hS hL
  exact lv_sipush hC.1 hC.2.1 hd hv (k r σ' ho p l e s m args below meth c D ad cI A hC hK hD hA hE H locs ls hP hS hL)
theorem x_ldc {index : Nat} {v : Int32} (hd : decode M.2.1 pc = .ok (.ldc index, 2)) (hw : Cond.constant M.1 index v ∈ xT) (k : XP κ b M h sh (pc + 2) L (.int v :: S) σ o) : XP κ b M h sh pc L S σ o := by
  intro r σ' ho p l e s m args below meth c D ad cI A hC hK hD hA hE H locs ls hP hS hL
  exact lv_ldc hC.1 hC.2.1 hC.2.2.2.2.1 (hC.2.2.2.2.2.2 _ hw) hd (k r σ' ho p l e s m args below meth c D ad cI A hC hK hD hA hE H locs ls hP hS hL)
theorem x_ldcw {index : Nat} {v : Int32} (hd : decode M.2.1 pc = .ok (.ldc_w index, 3)) (hw : Cond.constant M.1 index v ∈ xT) (k : XP κ b M h sh (pc + 3) L (.int v :: S) σ o) : XP κ b M h sh pc L S σ o := by
  intro r σ' ho p l e s m args below meth c D ad cI A hC hK hD hA hE H locs ls hP hS hL
  exact lv_ldcw hC.1 hC.2.1 hC.2.2.2.2.1 (hC.2.2.2.2.2.2 _ hw) hd (k r σ' ho p l e s m args below meth c D ad cI A hC hK hD hA hE H locs ls hP hS hL)
theorem x_ldc2 {index : Nat} {v : Int64} (hd : decode M.2.1 pc = .ok (.ldc2_w index, 3)) (hw : Cond.constantLong M.1 index v ∈ xT) (k : XP κ b M h sh (pc + 3) L (.long v :: S) σ o) : XP κ b M h sh pc L S σ o := by
  intro r σ' ho p l e s m args below meth c D ad cI A hC hK hD hA hE H locs ls hP hS hL
  exact lv_ldc2 hC.1 hC.2.1 hC.2.2.2.2.1 (hC.2.2.2.2.2.2 _ hw) hd (k r σ' ho p l e s m args below meth c D ad cI A hC hK hD hA hE H locs ls hP hS hL)
theorem x_iload_n {n : Fin 4} {i : Nat} {x : Int32} (hd : decode M.2.1 pc = .ok (.iload_n n, 1)) (hi : (n : Nat) = i) (hl : L[i]? = some (some (.int x))) (k : XP κ b M h sh (pc + 1) L (.int x :: S) σ o) : XP κ b M h sh pc L S σ o := by
  intro r σ' ho p l e s m args below meth c D ad cI A hC hK hD hA hE H locs ls hP hS hL
  exact lv_iload_n hC.1 hC.2.1 hd hi (hL.2.2 _ _ hl) (k r σ' ho p l e s m args below meth c D ad cI A hC hK hD hA hE H locs ls hP hS hL)
theorem x_iload {i : Nat} {x : Int32} (hd : decode M.2.1 pc = .ok (.iload i, 2)) (hl : L[i]? = some (some (.int x))) (k : XP κ b M h sh (pc + 2) L (.int x :: S) σ o) : XP κ b M h sh pc L S σ o := by
  intro r σ' ho p l e s m args below meth c D ad cI A hC hK hD hA hE H locs ls hP hS hL
  exact lv_iload hC.1 hC.2.1 hd (hL.2.2 _ _ hl) (k r σ' ho p l e s m args below meth c D ad cI A hC hK hD hA hE H locs ls hP hS hL)
theorem x_lload_n {n : Fin 4} {i : Nat} {x : Int64} (hd : decode M.2.1 pc = .ok (.lload_n n, 1)) (hi : (n : Nat) = i) (hl : L[i]? = some (some (.long x))) (k : XP κ b M h sh (pc + 1) L (.long x :: S) σ o) : XP κ b M h sh pc L S σ o := by
  intro r σ' ho p l e s m args below meth c D ad cI A hC hK hD hA hE H locs ls hP hS hL
  exact lv_lload_n hC.1 hC.2.1 hd hi (hL.2.2 _ _ hl) (k r σ' ho p l e s m args below meth c D ad cI A hC hK hD hA hE H locs ls hP hS hL)
theorem x_lload {i : Nat} {x : Int64} (hd : decode M.2.1 pc = .ok (.lload i, 2)) (hl : L[i]? = some (some (.long x))) (k : XP κ b M h sh (pc + 2) L (.long x :: S) σ o) : XP κ b M h sh pc L S σ o := by
  intro r σ' ho p l e s m args below meth c D ad cI A hC hK hD hA hE H locs ls hP hS hL
  exact lv_lload hC.1 hC.2.1 hd (hL.2.2 _ _ hl) (k r σ' ho p l e s m args below meth c D ad cI A hC hK hD hA hE H locs ls hP hS hL)
theorem x_aload_n {n : Fin 4} {i : Nat} {x : Nat} (hd : decode M.2.1 pc = .ok (.aload_n n, 1)) (hi : (n : Nat) = i) (hl : L[i]? = some (some (.ref x))) (k : XP κ b M h sh (pc + 1) L (.ref x :: S) σ o) : XP κ b M h sh pc L S σ o := by
  intro r σ' ho p l e s m args below meth c D ad cI A hC hK hD hA hE H locs ls hP hS hL
  exact lv_aload_n hC.1 hC.2.1 hd hi (hL.2.2 _ _ hl) (k r σ' ho p l e s m args below meth c D ad cI A hC hK hD hA hE H locs ls hP hS hL)
theorem x_aload {i : Nat} {x : Nat} (hd : decode M.2.1 pc = .ok (.aload i, 2)) (hl : L[i]? = some (some (.ref x))) (k : XP κ b M h sh (pc + 2) L (.ref x :: S) σ o) : XP κ b M h sh pc L S σ o := by
  intro r σ' ho p l e s m args below meth c D ad cI A hC hK hD hA hE H locs ls hP hS hL
  exact lv_aload hC.1 hC.2.1 hd (hL.2.2 _ _ hl) (k r σ' ho p l e s m args below meth c D ad cI A hC hK hD hA hE H locs ls hP hS hL)
theorem x_istore_n {n : Fin 4} {i : Nat} {x : Int32} (hd : decode M.2.1 pc = .ok (.istore_n n, 1)) (hi : (n : Nat) = i) (hn : Nat.ble (i + 1) M.2.2.1 = true) (hq : x_nl L i = true) (k : XP κ b M h sh (pc + 1) (L.set i (some (.int x))) S σ o) : XP κ b M h sh pc L (.int x :: S) σ o := by
  intro r σ' ho p l e s m args below meth c D ad cI A hC hK hD hA hE H locs ls hP hS hL
  exact lv_istore_n hC.1 hC.2.1 hd hi hL.has (Nat.le_of_ble_eq_true hn) rfl (fun ls' hl => k r σ' ho p l e s m args below meth c D ad cI A hC hK hD hA hE H locs ls' hP hS (x_L.st1 (v := .int x) hq hl))
theorem x_istore {i : Nat} {x : Int32} (hd : decode M.2.1 pc = .ok (.istore i, 2)) (hn : Nat.ble (i + 1) M.2.2.1 = true) (hq : x_nl L i = true) (k : XP κ b M h sh (pc + 2) (L.set i (some (.int x))) S σ o) : XP κ b M h sh pc L (.int x :: S) σ o := by
  intro r σ' ho p l e s m args below meth c D ad cI A hC hK hD hA hE H locs ls hP hS hL
  exact lv_istore hC.1 hC.2.1 hd hL.has (Nat.le_of_ble_eq_true hn) rfl (fun ls' hl => k r σ' ho p l e s m args below meth c D ad cI A hC hK hD hA hE H locs ls' hP hS (x_L.st1 (v := .int x) hq hl))
theorem x_astore_n {n : Fin 4} {i : Nat} {x : Nat} (hd : decode M.2.1 pc = .ok (.astore_n n, 1)) (hi : (n : Nat) = i) (hn : Nat.ble (i + 1) M.2.2.1 = true) (hq : x_nl L i = true) (k : XP κ b M h sh (pc + 1) (L.set i (some (.ref x))) S σ o) : XP κ b M h sh pc L (.ref x :: S) σ o := by
  intro r σ' ho p l e s m args below meth c D ad cI A hC hK hD hA hE H locs ls hP hS hL
  exact lv_astore_n hC.1 hC.2.1 hd hi hL.has (Nat.le_of_ble_eq_true hn) rfl (fun ls' hl => k r σ' ho p l e s m args below meth c D ad cI A hC hK hD hA hE H locs ls' hP hS (x_L.st1 (v := .ref x) hq hl))
theorem x_astore {i : Nat} {x : Nat} (hd : decode M.2.1 pc = .ok (.astore i, 2)) (hn : Nat.ble (i + 1) M.2.2.1 = true) (hq : x_nl L i = true) (k : XP κ b M h sh (pc + 2) (L.set i (some (.ref x))) S σ o) : XP κ b M h sh pc L (.ref x :: S) σ o := by
  intro r σ' ho p l e s m args below meth c D ad cI A hC hK hD hA hE H locs ls hP hS hL
  exact lv_astore hC.1 hC.2.1 hd hL.has (Nat.le_of_ble_eq_true hn) rfl (fun ls' hl => k r σ' ho p l e s m args below meth c D ad cI A hC hK hD hA hE H locs ls' hP hS (x_L.st1 (v := .ref x) hq hl))
theorem x_lstore_n {n : Fin 4} {i : Nat} {x : Int64} (hd : decode M.2.1 pc = .ok (.lstore_n n, 1)) (hi : (n : Nat) = i) (hn : Nat.ble (i + 1 + 1) M.2.2.1 = true) (hq : x_nl L i = true) (k : XP κ b M h sh (pc + 1) ((L.set (i + 1) none).set i (some (.long x))) S σ o) : XP κ b M h sh pc L (.long x :: S) σ o := by
  intro r σ' ho p l e s m args below meth c D ad cI A hC hK hD hA hE H locs ls hP hS hL
  exact lv_lstore_n hC.1 hC.2.1 hd hi hL.has (Nat.le_of_ble_eq_true hn) rfl (fun ls' hl => k r σ' ho p l e s m args below meth c D ad cI A hC hK hD hA hE H locs ls' hP hS (x_L.st2 (v := .long x) hq hl))
theorem x_lstore {i : Nat} {x : Int64} (hd : decode M.2.1 pc = .ok (.lstore i, 2)) (hn : Nat.ble (i + 1 + 1) M.2.2.1 = true) (hq : x_nl L i = true) (k : XP κ b M h sh (pc + 2) ((L.set (i + 1) none).set i (some (.long x))) S σ o) : XP κ b M h sh pc L (.long x :: S) σ o := by
  intro r σ' ho p l e s m args below meth c D ad cI A hC hK hD hA hE H locs ls hP hS hL
  exact lv_lstore hC.1 hC.2.1 hd hL.has (Nat.le_of_ble_eq_true hn) rfl (fun ls' hl => k r σ' ho p l e s m args below meth c D ad cI A hC hK hD hA hE H locs ls' hP hS (x_L.st2 (v := .long x) hq hl))
theorem x_iinc {i : Nat} {n : Int} {x v : Int32} (hd : decode M.2.1 pc = .ok (.iinc i n, 3)) (hl : L[i]? = some (some (.int x))) (hv : x + Int32.ofInt n = v) (hn : Nat.ble (i + 1) M.2.2.1 = true) (hq : x_nl L i = true) (k : XP κ b M h sh (pc + 3) (L.set i (some (.int v))) S σ o) : XP κ b M h sh pc L S σ o := by
  intro r σ' ho p l e s m args below meth c D ad cI A hC hK hD hA hE H locs ls hP hS hL
  obtain ⟨j, hj⟩ := List.mem_iff_getElem?.mp (x_lv_mem (ad := ad) (q := (i, .int x)).mpr ⟨_, hl, rfl⟩)
  exact lv_iinc hC.1 hC.2.1 hd hL.has hj hv (Nat.le_of_ble_eq_true hn) rfl (fun ls' hl => k r σ' ho p l e s m args below meth c D ad cI A hC hK hD hA hE H locs ls' hP hS (x_L.st1 (v := .int v) hq hl))
theorem x_iadd {x y : Int32} (hd : decode M.2.1 pc = .ok (.iadd, 1)) (k : XP κ b M h sh (pc + 1) L (.int (x + y) :: S) σ o) : XP κ b M h sh pc L (.int y :: .int x :: S) σ o := by
  intro r σ' ho p l e s m args below meth c D ad cI A hC hK hD hA hE H locs ls hP hS hL
  exact lv_iadd hC.1 hC.2.1 hd (k r σ' ho p l e s m args below meth c D ad cI A hC hK hD hA hE H locs ls hP hS hL)
theorem x_isub {x y : Int32} (hd : decode M.2.1 pc = .ok (.isub, 1)) (k : XP κ b M h sh (pc + 1) L (.int (x - y) :: S) σ o) : XP κ b M h sh pc L (.int y :: .int x :: S) σ o := by
  intro r σ' ho p l e s m args below meth c D ad cI A hC hK hD hA hE H locs ls hP hS hL
  exact lv_isub hC.1 hC.2.1 hd (k r σ' ho p l e s m args below meth c D ad cI A hC hK hD hA hE H locs ls hP hS hL)
theorem x_imul {x y : Int32} (hd : decode M.2.1 pc = .ok (.imul, 1)) (k : XP κ b M h sh (pc + 1) L (.int (x * y) :: S) σ o) : XP κ b M h sh pc L (.int y :: .int x :: S) σ o := by
  intro r σ' ho p l e s m args below meth c D ad cI A hC hK hD hA hE H locs ls hP hS hL
  exact lv_imul hC.1 hC.2.1 hd (k r σ' ho p l e s m args below meth c D ad cI A hC hK hD hA hE H locs ls hP hS hL)
theorem x_iand {x y : Int32} (hd : decode M.2.1 pc = .ok (.iand, 1)) (k : XP κ b M h sh (pc + 1) L (.int (x &&& y) :: S) σ o) : XP κ b M h sh pc L (.int y :: .int x :: S) σ o := by
  intro r σ' ho p l e s m args below meth c D ad cI A hC hK hD hA hE H locs ls hP hS hL
  exact lv_iand hC.1 hC.2.1 hd (k r σ' ho p l e s m args below meth c D ad cI A hC hK hD hA hE H locs ls hP hS hL)
theorem x_ior {x y : Int32} (hd : decode M.2.1 pc = .ok (.ior, 1)) (k : XP κ b M h sh (pc + 1) L (.int (x ||| y) :: S) σ o) : XP κ b M h sh pc L (.int y :: .int x :: S) σ o := by
  intro r σ' ho p l e s m args below meth c D ad cI A hC hK hD hA hE H locs ls hP hS hL
  exact lv_ior hC.1 hC.2.1 hd (k r σ' ho p l e s m args below meth c D ad cI A hC hK hD hA hE H locs ls hP hS hL)
theorem x_ixor {x y : Int32} (hd : decode M.2.1 pc = .ok (.ixor, 1)) (k : XP κ b M h sh (pc + 1) L (.int (x ^^^ y) :: S) σ o) : XP κ b M h sh pc L (.int y :: .int x :: S) σ o := by
  intro r σ' ho p l e s m args below meth c D ad cI A hC hK hD hA hE H locs ls hP hS hL
  exact lv_ixor hC.1 hC.2.1 hd (k r σ' ho p l e s m args below meth c D ad cI A hC hK hD hA hE H locs ls hP hS hL)
theorem x_ishl {x y : Int32} (hd : decode M.2.1 pc = .ok (.ishl, 1)) (k : XP κ b M h sh (pc + 1) L (.int (x <<< (y &&& 31)) :: S) σ o) : XP κ b M h sh pc L (.int y :: .int x :: S) σ o := by
  intro r σ' ho p l e s m args below meth c D ad cI A hC hK hD hA hE H locs ls hP hS hL
  exact lv_ishl hC.1 hC.2.1 hd (k r σ' ho p l e s m args below meth c D ad cI A hC hK hD hA hE H locs ls hP hS hL)
theorem x_ishr {x y : Int32} (hd : decode M.2.1 pc = .ok (.ishr, 1)) (k : XP κ b M h sh (pc + 1) L (.int (x >>> (y &&& 31)) :: S) σ o) : XP κ b M h sh pc L (.int y :: .int x :: S) σ o := by
  intro r σ' ho p l e s m args below meth c D ad cI A hC hK hD hA hE H locs ls hP hS hL
  exact lv_ishr hC.1 hC.2.1 hd (k r σ' ho p l e s m args below meth c D ad cI A hC hK hD hA hE H locs ls hP hS hL)
theorem x_iushr {x y : Int32} (hd : decode M.2.1 pc = .ok (.iushr, 1)) (k : XP κ b M h sh (pc + 1) L (.int ((x.toUInt32 >>> (y.toUInt32 &&& Int32.toUInt32 31)).toInt32) :: S) σ o) : XP κ b M h sh pc L (.int y :: .int x :: S) σ o := by
  intro r σ' ho p l e s m args below meth c D ad cI A hC hK hD hA hE H locs ls hP hS hL
  exact lv_iushr hC.1 hC.2.1 hd rfl (k r σ' ho p l e s m args below meth c D ad cI A hC hK hD hA hE H locs ls hP hS hL)
theorem x_ladd {x y : Int64} (hd : decode M.2.1 pc = .ok (.ladd, 1)) (k : XP κ b M h sh (pc + 1) L (.long (x + y) :: S) σ o) : XP κ b M h sh pc L (.long y :: .long x :: S) σ o := by
  intro r σ' ho p l e s m args below meth c D ad cI A hC hK hD hA hE H locs ls hP hS hL
  exact lv_ladd hC.1 hC.2.1 hd (k r σ' ho p l e s m args below meth c D ad cI A hC hK hD hA hE H locs ls hP hS hL)
theorem x_lmul {x y : Int64} (hd : decode M.2.1 pc = .ok (.lmul, 1)) (k : XP κ b M h sh (pc + 1) L (.long (x * y) :: S) σ o) : XP κ b M h sh pc L (.long y :: .long x :: S) σ o := by
  intro r σ' ho p l e s m args below meth c D ad cI A hC hK hD hA hE H locs ls hP hS hL
  exact lv_lmul hC.1 hC.2.1 hd (k r σ' ho p l e s m args below meth c D ad cI A hC hK hD hA hE H locs ls hP hS hL)
theorem x_idiv {x y : Int32} (hd : decode M.2.1 pc = .ok (.idiv, 1)) (k : XP κ b M h sh (pc + 1) L (.int (x / y) :: S) σ o) : XP κ b M h sh pc L (.int y :: .int x :: S) σ (gz y o) := by
  by_cases hy : y = 0
  · rw [gz, if_pos hy]; exact x_none
  rw [gz, if_neg hy]
  intro r σ' ho p l e s m args below meth c D ad cI A hC hK hD hA hE H locs ls hP hS hL
  exact lv_idiv hC.1 hC.2.1 hd hy (k r σ' ho p l e s m args below meth c D ad cI A hC hK hD hA hE H locs ls hP hS hL)
theorem x_irem {x y : Int32} (hd : decode M.2.1 pc = .ok (.irem, 1)) (k : XP κ b M h sh (pc + 1) L (.int (x - x / y * y) :: S) σ o) : XP κ b M h sh pc L (.int y :: .int x :: S) σ (gz y o) := by
  by_cases hy : y = 0
  · rw [gz, if_pos hy]; exact x_none
  rw [gz, if_neg hy]
  intro r σ' ho p l e s m args below meth c D ad cI A hC hK hD hA hE H locs ls hP hS hL
  exact lv_irem hC.1 hC.2.1 hd hy (k r σ' ho p l e s m args below meth c D ad cI A hC hK hD hA hE H locs ls hP hS hL)
theorem x_i2l {x : Int32} (hd : decode M.2.1 pc = .ok (.i2l, 1)) (k : XP κ b M h sh (pc + 1) L (.long x.toInt64 :: S) σ o) : XP κ b M h sh pc L (.int x :: S) σ o := by
  intro r σ' ho p l e s m args below meth c D ad cI A hC hK hD hA hE H locs ls hP hS hL
  exact lv_i2l hC.1 hC.2.1 hd rfl (k r σ' ho p l e s m args below meth c D ad cI A hC hK hD hA hE H locs ls hP hS hL)
theorem x_dup {v : Value} (hd : decode M.2.1 pc = .ok (.dup, 1)) (hv : v.category = 1) (k : XP κ b M h sh (pc + 1) L (v :: v :: S) σ o) : XP κ b M h sh pc L (v :: S) σ o := by
  intro r σ' ho p l e s m args below meth c D ad cI A hC hK hD hA hE H locs ls hP hS hL
  exact lv_dup hC.1 hC.2.1 hd ((x_v_cat ad v).trans hv) (k r σ' ho p l e s m args below meth c D ad cI A hC hK hD hA hE H locs ls hP hS hL)
theorem x_pop {v : Value} (hd : decode M.2.1 pc = .ok (.pop, 1)) (hv : v.category = 1) (k : XP κ b M h sh (pc + 1) L S σ o) : XP κ b M h sh pc L (v :: S) σ o := by
  intro r σ' ho p l e s m args below meth c D ad cI A hC hK hD hA hE H locs ls hP hS hL
  exact lv_pop hC.1 hC.2.1 hd ((x_v_cat ad v).trans hv) (k r σ' ho p l e s m args below meth c D ad cI A hC hK hD hA hE H locs ls hP hS hL)
theorem x_dup2 {v w : Value} (hd : decode M.2.1 pc = .ok (.dup2, 1)) (hv : v.category = 1) (hw : w.category = 1) (k : XP κ b M h sh (pc + 1) L (v :: w :: v :: w :: S) σ o) : XP κ b M h sh pc L (v :: w :: S) σ o := by
  intro r σ' ho p l e s m args below meth c D ad cI A hC hK hD hA hE H locs ls hP hS hL
  exact lv_dup2_11 hC.1 hC.2.1 hd ((x_v_cat ad v).trans hv) ((x_v_cat ad w).trans hw) (k r σ' ho p l e s m args below meth c D ad cI A hC hK hD hA hE H locs ls hP hS hL)
theorem x_icmp_eq {x y : Int32} {off : Int} (tgt : Nat) (hd : decode M.2.1 pc = .ok (.if_icmp .eq off, 3)) (ht : (pc : Int) + off = (tgt : Int)) (kt : x = y → XP κ b M h sh tgt L S σ o1) (kf : ¬ x = y → XP κ b M h sh (pc + 3) L S σ o2) : XP κ b M h sh pc L (.int y :: .int x :: S) σ (if x = y then o1 else o2) := by
  intro r σ' ho p l e s m args below meth c D ad cI A hC hK hD hA hE H locs ls hP hS hL
  exact lv_icmp_eq hC.1 hC.2.1 hd ht (fun hc => kt hc r σ' (by rw [if_pos hc] at ho; exact ho) p l e s m args below meth c D ad cI A hC hK hD hA hE H locs ls hP hS hL) (fun hc => kf hc r σ' (by rw [if_neg hc] at ho; exact ho) p l e s m args below meth c D ad cI A hC hK hD hA hE H locs ls hP hS hL)
theorem x_if_eq {x : Int32} {off : Int} (tgt : Nat) (hd : decode M.2.1 pc = .ok (.ifCond .eq off, 3)) (ht : (pc : Int) + off = (tgt : Int)) (kt : x = 0 → XP κ b M h sh tgt L S σ o1) (kf : ¬ x = 0 → XP κ b M h sh (pc + 3) L S σ o2) : XP κ b M h sh pc L (.int x :: S) σ (if x = 0 then o1 else o2) := by
  intro r σ' ho p l e s m args below meth c D ad cI A hC hK hD hA hE H locs ls hP hS hL
  exact lv_if_eq hC.1 hC.2.1 hd ht (fun hc => kt hc r σ' (by rw [if_pos hc] at ho; exact ho) p l e s m args below meth c D ad cI A hC hK hD hA hE H locs ls hP hS hL) (fun hc => kf hc r σ' (by rw [if_neg hc] at ho; exact ho) p l e s m args below meth c D ad cI A hC hK hD hA hE H locs ls hP hS hL)
theorem x_icmp_ne {x y : Int32} {off : Int} (tgt : Nat) (hd : decode M.2.1 pc = .ok (.if_icmp .ne off, 3)) (ht : (pc : Int) + off = (tgt : Int)) (kt : ¬ x = y → XP κ b M h sh tgt L S σ o1) (kf : x = y → XP κ b M h sh (pc + 3) L S σ o2) : XP κ b M h sh pc L (.int y :: .int x :: S) σ (if x = y then o2 else o1) := by
  intro r σ' ho p l e s m args below meth c D ad cI A hC hK hD hA hE H locs ls hP hS hL
  exact lv_icmp_ne hC.1 hC.2.1 hd ht (fun hc => kt hc r σ' (by rw [if_neg hc] at ho; exact ho) p l e s m args below meth c D ad cI A hC hK hD hA hE H locs ls hP hS hL) (fun hc => kf hc r σ' (by rw [if_pos hc] at ho; exact ho) p l e s m args below meth c D ad cI A hC hK hD hA hE H locs ls hP hS hL)
theorem x_if_ne {x : Int32} {off : Int} (tgt : Nat) (hd : decode M.2.1 pc = .ok (.ifCond .ne off, 3)) (ht : (pc : Int) + off = (tgt : Int)) (kt : ¬ x = 0 → XP κ b M h sh tgt L S σ o1) (kf : x = 0 → XP κ b M h sh (pc + 3) L S σ o2) : XP κ b M h sh pc L (.int x :: S) σ (if x = 0 then o2 else o1) := by
  intro r σ' ho p l e s m args below meth c D ad cI A hC hK hD hA hE H locs ls hP hS hL
  exact lv_if_ne hC.1 hC.2.1 hd ht (fun hc => kt hc r σ' (by rw [if_neg hc] at ho; exact ho) p l e s m args below meth c D ad cI A hC hK hD hA hE H locs ls hP hS hL) (fun hc => kf hc r σ' (by rw [if_pos hc] at ho; exact ho) p l e s m args below meth c D ad cI A hC hK hD hA hE H locs ls hP hS hL)
theorem x_icmp_lt {x y : Int32} {off : Int} (tgt : Nat) (hd : decode M.2.1 pc = .ok (.if_icmp .lt off, 3)) (ht : (pc : Int) + off = (tgt : Int)) (kt : x < y → XP κ b M h sh tgt L S σ o1) (kf : ¬ x < y → XP κ b M h sh (pc + 3) L S σ o2) : XP κ b M h sh pc L (.int y :: .int x :: S) σ (if x < y then o1 else o2) := by
  intro r σ' ho p l e s m args below meth c D ad cI A hC hK hD hA hE H locs ls hP hS hL
  exact lv_icmp_lt hC.1 hC.2.1 hd ht (fun hc => kt hc r σ' (by rw [if_pos hc] at ho; exact ho) p l e s m args below meth c D ad cI A hC hK hD hA hE H locs ls hP hS hL) (fun hc => kf hc r σ' (by rw [if_neg hc] at ho; exact ho) p l e s m args below meth c D ad cI A hC hK hD hA hE H locs ls hP hS hL)
theorem x_if_lt {x : Int32} {off : Int} (tgt : Nat) (hd : decode M.2.1 pc = .ok (.ifCond .lt off, 3)) (ht : (pc : Int) + off = (tgt : Int)) (kt : x < 0 → XP κ b M h sh tgt L S σ o1) (kf : ¬ x < 0 → XP κ b M h sh (pc + 3) L S σ o2) : XP κ b M h sh pc L (.int x :: S) σ (if x < 0 then o1 else o2) := by
  intro r σ' ho p l e s m args below meth c D ad cI A hC hK hD hA hE H locs ls hP hS hL
  exact lv_if_lt hC.1 hC.2.1 hd ht (fun hc => kt hc r σ' (by rw [if_pos hc] at ho; exact ho) p l e s m args below meth c D ad cI A hC hK hD hA hE H locs ls hP hS hL) (fun hc => kf hc r σ' (by rw [if_neg hc] at ho; exact ho) p l e s m args below meth c D ad cI A hC hK hD hA hE H locs ls hP hS hL)
theorem x_icmp_ge {x y : Int32} {off : Int} (tgt : Nat) (hd : decode M.2.1 pc = .ok (.if_icmp .ge off, 3)) (ht : (pc : Int) + off = (tgt : Int)) (kt : y ≤ x → XP κ b M h sh tgt L S σ o1) (kf : ¬ y ≤ x → XP κ b M h sh (pc + 3) L S σ o2) : XP κ b M h sh pc L (.int y :: .int x :: S) σ (if y ≤ x then o1 else o2) := by
  intro r σ' ho p l e s m args below meth c D ad cI A hC hK hD hA hE H locs ls hP hS hL
  exact lv_icmp_ge hC.1 hC.2.1 hd ht (fun hc => kt hc r σ' (by rw [if_pos hc] at ho; exact ho) p l e s m args below meth c D ad cI A hC hK hD hA hE H locs ls hP hS hL) (fun hc => kf hc r σ' (by rw [if_neg hc] at ho; exact ho) p l e s m args below meth c D ad cI A hC hK hD hA hE H locs ls hP hS hL)
theorem x_if_ge {x : Int32} {off : Int} (tgt : Nat) (hd : decode M.2.1 pc = .ok (.ifCond .ge off, 3)) (ht : (pc : Int) + off = (tgt : Int)) (kt : 0 ≤ x → XP κ b M h sh tgt L S σ o1) (kf : ¬ 0 ≤ x → XP κ b M h sh (pc + 3) L S σ o2) : XP κ b M h sh pc L (.int x :: S) σ (if 0 ≤ x then o1 else o2) := by
  intro r σ' ho p l e s m args below meth c D ad cI A hC hK hD hA hE H locs ls hP hS hL
  exact lv_if_ge hC.1 hC.2.1 hd ht (fun hc => kt hc r σ' (by rw [if_pos hc] at ho; exact ho) p l e s m args below meth c D ad cI A hC hK hD hA hE H locs ls hP hS hL) (fun hc => kf hc r σ' (by rw [if_neg hc] at ho; exact ho) p l e s m args below meth c D ad cI A hC hK hD hA hE H locs ls hP hS hL)
theorem x_icmp_gt {x y : Int32} {off : Int} (tgt : Nat) (hd : decode M.2.1 pc = .ok (.if_icmp .gt off, 3)) (ht : (pc : Int) + off = (tgt : Int)) (kt : y < x → XP κ b M h sh tgt L S σ o1) (kf : ¬ y < x → XP κ b M h sh (pc + 3) L S σ o2) : XP κ b M h sh pc L (.int y :: .int x :: S) σ (if y < x then o1 else o2) := by
  intro r σ' ho p l e s m args below meth c D ad cI A hC hK hD hA hE H locs ls hP hS hL
  exact lv_icmp_gt hC.1 hC.2.1 hd ht (fun hc => kt hc r σ' (by rw [if_pos hc] at ho; exact ho) p l e s m args below meth c D ad cI A hC hK hD hA hE H locs ls hP hS hL) (fun hc => kf hc r σ' (by rw [if_neg hc] at ho; exact ho) p l e s m args below meth c D ad cI A hC hK hD hA hE H locs ls hP hS hL)
theorem x_if_gt {x : Int32} {off : Int} (tgt : Nat) (hd : decode M.2.1 pc = .ok (.ifCond .gt off, 3)) (ht : (pc : Int) + off = (tgt : Int)) (kt : 0 < x → XP κ b M h sh tgt L S σ o1) (kf : ¬ 0 < x → XP κ b M h sh (pc + 3) L S σ o2) : XP κ b M h sh pc L (.int x :: S) σ (if 0 < x then o1 else o2) := by
  intro r σ' ho p l e s m args below meth c D ad cI A hC hK hD hA hE H locs ls hP hS hL
  exact lv_if_gt hC.1 hC.2.1 hd ht (fun hc => kt hc r σ' (by rw [if_pos hc] at ho; exact ho) p l e s m args below meth c D ad cI A hC hK hD hA hE H locs ls hP hS hL) (fun hc => kf hc r σ' (by rw [if_neg hc] at ho; exact ho) p l e s m args below meth c D ad cI A hC hK hD hA hE H locs ls hP hS hL)
theorem x_icmp_le {x y : Int32} {off : Int} (tgt : Nat) (hd : decode M.2.1 pc = .ok (.if_icmp .le off, 3)) (ht : (pc : Int) + off = (tgt : Int)) (kt : x ≤ y → XP κ b M h sh tgt L S σ o1) (kf : ¬ x ≤ y → XP κ b M h sh (pc + 3) L S σ o2) : XP κ b M h sh pc L (.int y :: .int x :: S) σ (if x ≤ y then o1 else o2) := by
  intro r σ' ho p l e s m args below meth c D ad cI A hC hK hD hA hE H locs ls hP hS hL
  exact lv_icmp_le hC.1 hC.2.1 hd ht (fun hc => kt hc r σ' (by rw [if_pos hc] at ho; exact ho) p l e s m args below meth c D ad cI A hC hK hD hA hE H locs ls hP hS hL) (fun hc => kf hc r σ' (by rw [if_neg hc] at ho; exact ho) p l e s m args below meth c D ad cI A hC hK hD hA hE H locs ls hP hS hL)
theorem x_if_le {x : Int32} {off : Int} (tgt : Nat) (hd : decode M.2.1 pc = .ok (.ifCond .le off, 3)) (ht : (pc : Int) + off = (tgt : Int)) (kt : x ≤ 0 → XP κ b M h sh tgt L S σ o1) (kf : ¬ x ≤ 0 → XP κ b M h sh (pc + 3) L S σ o2) : XP κ b M h sh pc L (.int x :: S) σ (if x ≤ 0 then o1 else o2) := by
  intro r σ' ho p l e s m args below meth c D ad cI A hC hK hD hA hE H locs ls hP hS hL
  exact lv_if_le hC.1 hC.2.1 hd ht (fun hc => kt hc r σ' (by rw [if_pos hc] at ho; exact ho) p l e s m args below meth c D ad cI A hC hK hD hA hE H locs ls hP hS hL) (fun hc => kf hc r σ' (by rw [if_neg hc] at ho; exact ho) p l e s m args below meth c D ad cI A hC hK hD hA hE H locs ls hP hS hL)
theorem x_goto {off : Int} (tgt : Nat) (hd : decode M.2.1 pc = .ok (.goto off, 3)) (ht : (pc : Int) + off = (tgt : Int)) (k : XP κ b M h sh tgt L S σ o) : XP κ b M h sh pc L S σ o := by
  intro r σ' ho p l e s m args below meth c D ad cI A hC hK hD hA hE H locs ls hP hS hL
  exact lv_goto hC.1 hC.2.1 hd ht (k r σ' ho p l e s m args below meth c D ad cI A hC hK hD hA hE H locs ls hP hS hL)
theorem x_tabI {dflt lo hi : Int} {offs : Array Int} {len : Nat} {x v : Int32} {off : Int} (tgt : Nat) (hd : decode M.2.1 pc = .ok (.tableswitch dflt lo hi offs, len)) (hx : x = v) (h1 : ¬ v.toInt < lo) (h2 : ¬ hi < v.toInt) (hof : offs[(v.toInt - lo).toNat]? = some off) (ht : (pc : Int) + off = (tgt : Int)) (k : XP κ b M h sh tgt L S σ o) : XP κ b M h sh pc L (.int x :: S) σ o := by
  subst hx
  intro r σ' ho p l e s m args below meth c D ad cI A hC hK hD hA hE H locs ls hP hS hL
  exact lv_tableIn hC.1 hC.2.1 hd h1 h2 hof ht (k r σ' ho p l e s m args below meth c D ad cI A hC hK hD hA hE H locs ls hP hS hL)
theorem x_tabO {dflt lo hi : Int} {offs : Array Int} {len : Nat} {x : Int32} (tgt : Nat) (hd : decode M.2.1 pc = .ok (.tableswitch dflt lo hi offs, len)) (hx : x.toInt < lo ∨ hi < x.toInt) (ht : (pc : Int) + dflt = (tgt : Int)) (k : XP κ b M h sh tgt L S σ o) : XP κ b M h sh pc L (.int x :: S) σ o := by
  intro r σ' ho p l e s m args below meth c D ad cI A hC hK hD hA hE H locs ls hP hS hL
  exact lv_tableOut hC.1 hC.2.1 hd hx ht (k r σ' ho p l e s m args below meth c D ad cI A hC hK hD hA hE H locs ls hP hS hL)
theorem x_look {dflt : Int} {ps : Array (Int × Int)} {len : Nat} {x : Int32} {off : Int} (tgt : Nat) (hd : decode M.2.1 pc = .ok (.lookupswitch dflt ps, len)) (hp : (ps.toList.zip (ps.toList.drop 1)).all (fun (a, next) => a.1 < next.1) = true) (hof : Op.lookupswitch.offset ps.toList dflt x.toInt = off) (ht : (pc : Int) + off = (tgt : Int)) (k : XP κ b M h sh tgt L S σ o) : XP κ b M h sh pc L (.int x :: S) σ o := by
  intro r σ' ho p l e s m args below meth c D ad cI A hC hK hD hA hE H locs ls hP hS hL
  exact lv_lookup hC.1 hC.2.1 hd hp hof ht (k r σ' ho p l e s m args below meth c D ad cI A hC hK hD hA hE H locs ls hP hS hL)
theorem x_ne {x v : Int32} (n : Int) (hv : v.toInt = n) (h : ¬ x = v) : x.toInt ≠ n := fun e => h (Int32.toInt_inj.mp (e.trans hv.symm))
/-! fields and rows of ints -/
def x_FL (own : String) (index ci k : Nat) : Prop := ∃ (C : String) (T : u_T) (N : Nat), CL[ci]? = some (C, T, N) ∧ (∀ w ∈ u_ws C T N, w ∈ xT) ∧ k < N ∧ Cond.fieldLink own index (T k).1 (T k).2.1 (T k).2.2.1 ∈ xT
def x_FP (own : String) (index ci k : Nat) (ty : FieldType) : Prop := ∃ (C : String) (T : u_T) (N : Nat) (ty0 : Nat → FieldType), CL[ci]? = some (C, T, N) ∧ (∀ w ∈ u_ws C T N, w ∈ xT) ∧ k < N ∧ Cond.fieldLink own index (T k).1 (T k).2.1 (T k).2.2.1 ∈ xT ∧
  (∀ k, k < N → parseFieldDescriptor (T k).2.2.1 = some (ty0 k)) ∧ (∀ a, a < N → ∀ b, b < N → a ≠ b → (T a).2.1 ≠ (T b).2.1) ∧ (T k).2.2.2 = false ∧ parseFieldDescriptor (T k).2.2.1 = some ty
theorem x_getI {index ci k i : Nat} {fs : List (Option Nat × Bool)} (hd : decode M.2.1 pc = .ok (.getfield index, 3)) (hl : x_FL M.1 index ci k) (he : sh[i]? = some (.inr (ci, fs))) (hf : fs[k]? = some (none, false)) (kk : XP κ b M h sh (pc + 3) L (.int (σ.1 i k) :: S) σ o) : XP κ b M h sh pc L (.ref i :: S) σ o := by
  obtain ⟨C, T, N, h1, h2, h3, h4⟩ := hl
  intro r σ' ho p l e s m args below meth c D ad cI A hC hK hD hA hE H locs ls hP hS hL
  exact va_get hC.1 hC.2.1 hC.2.2.2.2.2.2 h2 hC.2.2.2.2.1 hK hP i (x_w_at he) h1 k h3 (hC.2.2.2.2.2.2 _ h4) (fun _ h9 => h9) (v := x_v ad (.int (σ.1 i k))) (by simp [hf, x_fv, x_v]) hd (kk r σ' ho p l e s m args below meth c D ad cI A hC hK hD hA hE H locs ls hP hS hL)
theorem x_getL {index ci k i : Nat} {fs : List (Option Nat × Bool)} (hd : decode M.2.1 pc = .ok (.getfield index, 3)) (hl : x_FL M.1 index ci k) (he : sh[i]? = some (.inr (ci, fs))) (hf : fs[k]? = some (none, true)) (kk : XP κ b M h sh (pc + 3) L (.long σ.2 :: S) σ o) : XP κ b M h sh pc L (.ref i :: S) σ o := by
  obtain ⟨C, T, N, h1, h2, h3, h4⟩ := hl
  intro r σ' ho p l e s m args below meth c D ad cI A hC hK hD hA hE H locs ls hP hS hL
  exact va_get hC.1 hC.2.1 hC.2.2.2.2.2.2 h2 hC.2.2.2.2.1 hK hP i (x_w_at he) h1 k h3 (hC.2.2.2.2.2.2 _ h4) (fun _ h9 => h9) (v := x_v ad (.long σ.2)) (by simp [hf, x_fv, x_v]) hd (kk r σ' ho p l e s m args below meth c D ad cI A hC hK hD hA hE H locs ls hP hS hL)
theorem x_getR {index ci k i : Nat} {j : Nat} {fs : List (Option Nat × Bool)} (hd : decode M.2.1 pc = .ok (.getfield index, 3)) (hl : x_FL M.1 index ci k) (he : sh[i]? = some (.inr (ci, fs))) (hf : fs[k]? = some (some j, true)) (kk : XP κ b M h sh (pc + 3) L (.ref j :: S) σ o) : XP κ b M h sh pc L (.ref i :: S) σ o := by
  obtain ⟨C, T, N, h1, h2, h3, h4⟩ := hl
  intro r σ' ho p l e s m args below meth c D ad cI A hC hK hD hA hE H locs ls hP hS hL
  exact va_get hC.1 hC.2.1 hC.2.2.2.2.2.2 h2 hC.2.2.2.2.1 hK hP i (x_w_at he) h1 k h3 (hC.2.2.2.2.2.2 _ h4) (fun _ h9 => h9) (v := x_v ad (.ref j)) (by simp [hf, x_fv, x_v]) hd (kk r σ' ho p l e s m args below meth c D ad cI A hC hK hD hA hE H locs ls hP hS hL)
theorem x_putI {index ci k i : Nat} {v : Int32} {fs : List (Option Nat × Bool)} (hd : decode M.2.1 pc = .ok (.putfield index, 3)) (hl : x_FP M.1 index ci k .int) (he : sh[i]? = some (.inr (ci, fs))) (hf : fs[k]? = some (none, false)) (kk : XP κ b M h sh (pc + 3) L S (up2 σ i k v) o) : XP κ b M h sh pc L (.int v :: .ref i :: S) σ o := by
  obtain ⟨C, T, N, ty0, h1, h2, h3, h4, h5, h6, h7, h8⟩ := hl
  intro r σ' ho p l e s m args below meth c D ad cI A hC hK hD hA hE H locs ls hP hS hL
  refine va_put hC.1 hC.2.1 hC.2.2.2.2.2.2 h2 ty0 h5 h6 hC.2.2.2.2.1 hK hP hD hS i (x_w_at he) h1 k h3 (hC.2.2.2.2.2.2 _ h4) (fun _ h9 => h9) h7 (v := .int v) h8 (vp_nar_int v) rfl (by simp; exact (List.getElem?_eq_some_iff.mp hf).1) hd (fun H1 locs1 hP1 hD1 hS1 => ?_)
  rw [x_w_fst he hf] at hP1 hD1
  exact kk r σ' ho p l e s m args below meth c D ad cI A hC hK hD1 hA hE H1 locs1 ls hP1 hS1 hL
theorem x_putZ {index ci k i : Nat} {v : Int32} {fs : List (Option Nat × Bool)} (hd : decode M.2.1 pc = .ok (.putfield index, 3)) (hl : x_FP M.1 index ci k .boolean) (he : sh[i]? = some (.inr (ci, fs))) (hf : fs[k]? = some (none, false)) (kk : XP κ b M h sh (pc + 3) L S (up2 σ i k v) o) : XP κ b M h sh pc L (.int v :: .ref i :: S) σ (gb v o) := by
  by_cases hv : ¬ (v = 0 ∨ v = 1)
  · rw [gb, if_neg hv]; exact x_none
  have hv := Classical.not_not.mp hv
  rw [gb, if_pos hv]
  obtain ⟨C, T, N, ty0, h1, h2, h3, h4, h5, h6, h7, h8⟩ := hl
  intro r σ' ho p l e s m args below meth c D ad cI A hC hK hD hA hE H locs ls hP hS hL
  refine va_put hC.1 hC.2.1 hC.2.2.2.2.2.2 h2 ty0 h5 h6 hC.2.2.2.2.1 hK hP hD hS i (x_w_at he) h1 k h3 (hC.2.2.2.2.2.2 _ h4) (fun _ h9 => h9) h7 (v := .int v) h8 (by rcases hv with rfl | rfl <;> rfl) (by rcases hv with rfl | rfl <;> rfl) (by simp; exact (List.getElem?_eq_some_iff.mp hf).1) hd (fun H1 locs1 hP1 hD1 hS1 => ?_)
  rw [x_w_fst he hf] at hP1 hD1
  exact kk r σ' ho p l e s m args below meth c D ad cI A hC hK hD1 hA hE H1 locs1 ls hP1 hS1 hL
theorem x_putL {index ci k i : Nat} {v : Int64} {fs : List (Option Nat × Bool)} (hd : decode M.2.1 pc = .ok (.putfield index, 3)) (hl : x_FP M.1 index ci k .long) (he : sh[i]? = some (.inr (ci, fs))) (hf : fs[k]? = some (none, true)) (hu : ∀ (i2 ci2 : Nat) (g : List (Option Nat × Bool)) (j : Nat), sh[i2]? = some (.inr (ci2, g)) → g[j]? = some (none, true) → i2 = i ∧ j = k) (kk : XP κ b M h sh (pc + 3) L S (upl σ v) o) : XP κ b M h sh pc L (.long v :: .ref i :: S) σ o := by
  obtain ⟨C, T, N, ty0, h1, h2, h3, h4, h5, h6, h7, h8⟩ := hl
  intro r σ' ho p l e s m args below meth c D ad cI A hC hK hD hA hE H locs ls hP hS hL
  refine va_put hC.1 hC.2.1 hC.2.2.2.2.2.2 h2 ty0 h5 h6 hC.2.2.2.2.1 hK hP hD hS i (x_w_at he) h1 k h3 (hC.2.2.2.2.2.2 _ h4) (fun _ h9 => h9) h7 (v := .long v) h8 rfl rfl (by simp; exact (List.getElem?_eq_some_iff.mp hf).1) hd (fun H1 locs1 hP1 hD1 hS1 => ?_)
  rw [x_w_lst he hf hu] at hP1 hD1
  exact kk r σ' ho p l e s m args below meth c D ad cI A hC hK hD1 hA hE H1 locs1 ls hP1 hS1 hL
theorem x_iald {c0 n : Nat} {i : Int32} (hd : decode M.2.1 pc = .ok (.iaload, 1)) (he : sh[c0]? = some (.inl n)) (kk : XP κ b M h sh (pc + 1) L (.int (σ.1 c0 i.toNatClampNeg) :: S) σ o) : XP κ b M h sh pc L (.int i :: .ref c0 :: S) σ (gi i n o) := by
  by_cases hi : i < 0 ∨ n ≤ i.toNatClampNeg
  · rw [gi, if_pos hi]; exact x_none
  rw [gi, if_neg hi]
  intro r σ' ho p l e s m args below meth c D ad cI A hC hK hD hA hE H locs ls hP hS hL
  exact va_iald hC.1 hC.2.1 hK hP c0 0 (x_w_at he) rfl hi hd (kk r σ' ho p l e s m args below meth c D ad cI A hC hK hD hA hE H locs ls hP hS hL)
theorem x_iast {c0 n : Nat} {i x : Int32} (hd : decode M.2.1 pc = .ok (.iastore, 1)) (he : sh[c0]? = some (.inl n)) (kk : XP κ b M h sh (pc + 1) L S (up2 σ c0 i.toNatClampNeg x) o) : XP κ b M h sh pc L (.int x :: .int i :: .ref c0 :: S) σ (gi i n o) := by
  by_cases hi : i < 0 ∨ n ≤ i.toNatClampNeg
  · rw [gi, if_pos hi]; exact x_none
  rw [gi, if_neg hi]
  intro r σ' ho p l e s m args below meth c D ad cI A hC hK hD hA hE H locs ls hP hS hL
  refine va_iast hC.1 hC.2.1 hK hP hD hS c0 0 (x_w_at he) rfl hi hd (fun H1 locs1 hP1 hD1 hS1 => ?_)
  rw [x_w_ast he] at hP1 hD1
  exact kk r σ' ho p l e s m args below meth c D ad cI A hC hK hD1 hA hE H1 locs1 ls hP1 hS1 hL
theorem x_sum (ad : Nat → Nat) (S : List Value) : ((S.map (x_v ad)).map fun v => v.category).sum = (S.map fun v => v.category).sum := by
  induction S with
  | nil => rfl
  | cons v S ih => simp only [List.map_cons, List.sum_cons, ih, x_v_cat]
/-! a named value, a named state -/
def vb {α β : Type} (x : α) (k : α → β) : β := k x
theorem x_istore_nB {n : Fin 4} {i : Nat} {x : Int32} {k : Int32 → Option (ρ × xSt)} (hd : decode M.2.1 pc = .ok (.istore_n n, 1)) (hi : (n : Nat) = i) (hn : Nat.ble (i + 1) M.2.2.1 = true) (hq : x_nl L i = true) (kk : ∀ v : Int32, XP κ b M h sh (pc + 1) (L.set i (some (.int v))) S σ (k v)) : XP κ b M h sh pc L (.int x :: S) σ (vb x k) := x_istore_n hd hi hn hq (kk x)
theorem x_istoreB {i : Nat} {x : Int32} {k : Int32 → Option (ρ × xSt)} (hd : decode M.2.1 pc = .ok (.istore i, 2)) (hn : Nat.ble (i + 1) M.2.2.1 = true) (hq : x_nl L i = true) (kk : ∀ v : Int32, XP κ b M h sh (pc + 2) (L.set i (some (.int v))) S σ (k v)) : XP κ b M h sh pc L (.int x :: S) σ (vb x k) := x_istore hd hn hq (kk x)
theorem x_lstore_nB {n : Fin 4} {i : Nat} {x : Int64} {k : Int64 → Option (ρ × xSt)} (hd : decode M.2.1 pc = .ok (.lstore_n n, 1)) (hi : (n : Nat) = i) (hn : Nat.ble (i + 1 + 1) M.2.2.1 = true) (hq : x_nl L i = true) (kk : ∀ v : Int64, XP κ b M h sh (pc + 1) ((L.set (i + 1) none).set i (some (.long v))) S σ (k v)) : XP κ b M h sh pc L (.long x :: S) σ (vb x k) := x_lstore_n hd hi hn hq (kk x)
theorem x_lstoreB {i : Nat} {x : Int64} {k : Int64 → Option (ρ × xSt)} (hd : decode M.2.1 pc = .ok (.lstore i, 2)) (hn : Nat.ble (i + 1 + 1) M.2.2.1 = true) (hq : x_nl L i = true) (kk : ∀ v : Int64, XP κ b M h sh (pc + 2) ((L.set (i + 1) none).set i (some (.long v))) S σ (k v)) : XP κ b M h sh pc L (.long x :: S) σ (vb x k) := x_lstore hd hn hq (kk x)
theorem x_iastB {c0 n : Nat} {i x : Int32} {k : xSt → Option (ρ × xSt)} (hd : decode M.2.1 pc = .ok (.iastore, 1)) (he : sh[c0]? = some (.inl n)) (kk : ∀ σ1 : xSt, XP κ b M h sh (pc + 1) L S σ1 (k σ1)) : XP κ b M h sh pc L (.int x :: .int i :: .ref c0 :: S) σ (gi i n (vb (up2 σ c0 i.toNatClampNeg x) k)) := x_iast hd he (kk _)
theorem x_putIB {index ci k0 i : Nat} {v : Int32} {fs : List (Option Nat × Bool)} {k : xSt → Option (ρ × xSt)} (hd : decode M.2.1 pc = .ok (.putfield index, 3)) (hl : x_FP M.1 index ci k0 .int) (he : sh[i]? = some (.inr (ci, fs))) (hf : fs[k0]? = some (none, false)) (kk : ∀ σ1 : xSt, XP κ b M h sh (pc + 3) L S σ1 (k σ1)) : XP κ b M h sh pc L (.int v :: .ref i :: S) σ (vb (up2 σ i k0 v) k) := x_putI hd hl he hf (kk _)
theorem x_putZB {index ci k0 i : Nat} {v : Int32} {fs : List (Option Nat × Bool)} {k : xSt → Option (ρ × xSt)} (hd : decode M.2.1 pc = .ok (.putfield index, 3)) (hl : x_FP M.1 index ci k0 .boolean) (he : sh[i]? = some (.inr (ci, fs))) (hf : fs[k0]? = some (none, false)) (kk : ∀ σ1 : xSt, XP κ b M h sh (pc + 3) L S σ1 (k σ1)) : XP κ b M h sh pc L (.int v :: .ref i :: S) σ (gb v (vb (up2 σ i k0 v) k)) := x_putZ hd hl he hf (kk _)
theorem x_putLB {index ci k0 i : Nat} {v : Int64} {fs : List (Option Nat × Bool)} {k : xSt → Option (ρ × xSt)} (hd : decode M.2.1 pc = .ok (.putfield index, 3)) (hl : x_FP M.1 index ci k0 .long) (he : sh[i]? = some (.inr (ci, fs))) (hf : fs[k0]? = some (none, true)) (hu : ∀ (i2 ci2 : Nat) (g : List (Option Nat × Bool)) (j : Nat), sh[i2]? = some (.inr (ci2, g)) → g[j]? = some (none, true) → i2 = i ∧ j = k0) (kk : ∀ σ1 : xSt, XP κ b M h sh (pc + 3) L S σ1 (k σ1)) : XP κ b M h sh pc L (.long v :: .ref i :: S) σ (vb (upl σ v) k) := x_putL hd hl he hf hu (kk _)
theorem x_mmax {x y : Int32} {index : Nat} (hd : decode M.2.1 pc = .ok (.invokestatic index, 3)) (hl : Cond.methodLink M.1 index Lib.Math.max.name ∈ xT ∧ Cond.static Lib.Math.max.name ∈ xT ∧ Cond.initialized "java/lang/Math" ∈ xT ∧ Cond.code Lib.Math.max.name Lib.Math.max.code 2 (some .int) ∈ xT) (hh : Nat.ble 1 h = true) (hw : Nat.ble ((S.map fun v => v.category).sum) 8 = true) (k : XP κ b M h sh (pc + 3) L (.int (if x < y then y else x) :: S) σ o) : XP κ b M h sh pc L (.int y :: .int x :: S) σ o := by
  intro r σ' ho p l e s m args below meth c D ad cI A hC hK hD hA hE H locs ls hP hS hL
  have h1 := Nat.le_of_ble_eq_true hh
  have h2 := Nat.le_of_ble_eq_true hw
  exact va_mmax hC.1 hC.2.1 (hC.2.2.2.1.trans hL.1.symm) hC.2.2.2.2.1 (hC.2.2.2.2.2.2 _ hl.1) (hC.2.2.2.2.2.2 _ hl.2.1) (hC.2.2.2.2.2.2 _ hl.2.2.1) (hC.2.2.2.2.2.2 _ hl.2.2.2) h1 (by rw [x_sum]; show _ + 13 ≤ 64 * h; omega) (Nat.le_refl _) (Nat.le_refl _) hd (k r σ' ho p l e s m args below meth c D ad cI A hC hK hD hA hE H locs ls hP hS hL)
theorem x_mmin {x y : Int32} {index : Nat} (hd : decode M.2.1 pc = .ok (.invokestatic index, 3)) (hl : Cond.methodLink M.1 index Lib.Math.min.name ∈ xT ∧ Cond.static Lib.Math.min.name ∈ xT ∧ Cond.initialized "java/lang/Math" ∈ xT ∧ Cond.code Lib.Math.min.name Lib.Math.min.code 2 (some .int) ∈ xT) (hh : Nat.ble 1 h = true) (hw : Nat.ble ((S.map fun v => v.category).sum) 8 = true) (k : XP κ b M h sh (pc + 3) L (.int (if y < x then y else x) :: S) σ o) : XP κ b M h sh pc L (.int y :: .int x :: S) σ o := by
  intro r σ' ho p l e s m args below meth c D ad cI A hC hK hD hA hE H locs ls hP hS hL
  have h1 := Nat.le_of_ble_eq_true hh
  have h2 := Nat.le_of_ble_eq_true hw
  exact va_mmin hC.1 hC.2.1 (hC.2.2.2.1.trans hL.1.symm) hC.2.2.2.2.1 (hC.2.2.2.2.2.2 _ hl.1) (hC.2.2.2.2.2.2 _ hl.2.1) (hC.2.2.2.2.2.2 _ hl.2.2.1) (hC.2.2.2.2.2.2 _ hl.2.2.2) h1 (by rw [x_sum]; show _ + 13 ≤ 64 * h; omega) (Nat.le_refl _) (Nat.le_refl _) hd (k r σ' ho p l e s m args below meth c D ad cI A hC hK hD hA hE H locs ls hP hS hL)
theorem x_le_e {q : List (Option Value)} : x_le [] q := trivial
theorem x_le_s {v : Value} {w : Option Value} {p q : List (Option Value)} (hv : w = some v) (ht : x_le p q) : x_le (some v :: p) (w :: q) := ⟨hv, ht⟩
theorem x_le_n {w : Option Value} {p q : List (Option Value)} (ht : x_le p q) : x_le (none :: p) (w :: q) := ht
theorem x_inw {C : String} {T : u_T} {N : Nat} (ps : List Nat) (hp : u_ws C T N = ps.filterMap (fun i => lw_tbl[i]?)) (hg : (u_ws C T N).all goodWord = true) : ∀ w ∈ u_ws C T N, w ∈ xT := by
  intro w hw
  have hg1 := List.all_eq_true.mp hg w hw
  rw [hp] at hw
  obtain ⟨i, -, hi⟩ := List.mem_filterMap.mp hw
  exact xT_of i hi hg1
/-! returns -/
theorem x_iret {v : Int32} (hd : decode M.2.1 pc = .ok (.ireturn, 1)) (hr : M.2.2.2 = some .int) : XP κi b M h sh pc L [.int v] σ (some (v, σ)) := by
  intro r σ' ho p l e s m args below meth c D ad cI A hC hK hD hA hE H locs ls hP hS hL
  cases ho
  exact W.iret hC.1 hC.2.1 (hC.2.2.1.trans hr) (fun t ht hW => ⟨rfl, by rw [ht]; exact hP, va_K.moved hW.alike hK, hS.F ht⟩) hS.2.2 hd hC.2.2.2.2.2.1
theorem x_zret {v : Int32} (hd : decode M.2.1 pc = .ok (.ireturn, 1)) (hr : M.2.2.2 = some .boolean) : XP κi b M h sh pc L [.int v] σ (gb v (some (v, σ))) := by
  by_cases hv : ¬ (v = 0 ∨ v = 1)
  · rw [gb, if_neg hv]; exact x_none
  have hv := Classical.not_not.mp hv
  rw [gb, if_pos hv]
  intro r σ' ho p l e s m args below meth c D ad cI A hC hK hD hA hE H locs ls hP hS hL
  cases ho
  exact W.zret hC.1 hC.2.1 (hC.2.2.1.trans hr) (by rcases hv with rfl | rfl <;> rfl) (fun t ht hW => ⟨rfl, by rw [ht]; exact hP, va_K.moved hW.alike hK, hS.F ht⟩) hS.2.2 hd hC.2.2.2.2.2.1
theorem x_lret {v : Int64} (hd : decode M.2.1 pc = .ok (.lreturn, 1)) (hr : M.2.2.2 = some .long) : XP κl b M h sh pc L [.long v] σ (some (v, σ)) := by
  intro r σ' ho p l e s m args below meth c D ad cI A hC hK hD hA hE H locs ls hP hS hL
  cases ho
  exact W.lret hC.1 hC.2.1 (hC.2.2.1.trans hr) (fun t ht hW => ⟨rfl, by rw [ht]; exact hP, va_K.moved hW.alike hK, hS.F ht⟩) hS.2.2 hd hC.2.2.2.2.2.1
theorem x_vret (hd : decode M.2.1 pc = .ok (.return_, 1)) (hr : M.2.2.2 = none) : XP κv b M h sh pc L [] σ (some ((), σ)) := by
  intro r σ' ho p l e s m args below meth c D ad cI A hC hK hD hA hE H locs ls hP hS hL
  cases ho
  exact W.vret hC.1 hC.2.1 (hC.2.2.1.trans hr) (fun t ht hW => ⟨rfl, by rw [ht]; exact hP, va_K.moved hW.alike hK, hS.F ht⟩) hS.2.2 hd hC.2.2.2.2.2.1
theorem x_aret {v : Nat} {n : String} (hd : decode M.2.1 pc = .ok (.areturn, 1)) (hr : M.2.2.2 = some (.object n)) : XP κa b M h sh pc L [.ref v] σ (some (v, σ)) := by
  intro r σ' ho p l e s m args below meth c D ad cI A hC hK hD hA hE H locs ls hP hS hL
  cases ho
  exact W.aret hC.1 hC.2.1 (hC.2.2.1.trans hr) (Or.inl ⟨n, rfl⟩) (Or.inr ⟨_, rfl⟩) (fun t ht hW => ⟨rfl, by rw [ht]; exact hP, va_K.moved hW.alike hK, hS.F ht⟩) hS.2.2 hd hC.2.2.2.2.2.1
/-! calls -/
def x_B (b : Bool) (D : va_G) (ad : Nat → Nat) (cI : ClassId) (sh : xSh) (σ : xSt) (sz : Nat) : State → Prop := fun U => U.heap.size = sz ∧ va_P D CL (x_w ad cI sh σ) U.heap ∧ va_K D CL [(cI, .int)] U ∧ va_D (fun _ => True) (x_w ad cI sh σ) ∧ x_E b ad (va_A (x_w ad cI sh σ) sz) U U.heap
def Con (y : MethodName) (M : xM) (b : Bool) (h : Nat) (sh : xSh) (av : List Value) (σ : xSt) (rv : Option Value) (σ' : xSt) : Prop :=
  ∀ (l : Launch) (D : va_G) (ad : Nat → Nat) (cI : ClassId) (sz : Nat), Met l y (.code y M.2.1 M.2.2.1 M.2.2.2 :: xT) (x_rm h) (va_Pc (av.map (x_v ad)) (x_B b D ad cI sh σ sz)) (x_Q D ad cI sh (va_A (x_w ad cI sh σ) sz) rv σ') 0 0 (va_A (x_w ad cI sh σ) sz)
def CON {ρ : Type} (κ : ρ → Option Value) (y : MethodName) (M : xM) (b : Bool) (h : Nat) (sh : xSh) (av : List Value) (σ : xSt) (o : Option (ρ × xSt)) : Prop := ∀ r σ', o = some (r, σ') → Con y M b h sh av σ (κ r) σ'
theorem x_B_blind (b : Bool) (D : va_G) (ad : Nat → Nat) (cI : ClassId) (sh : xSh) (σ : xSt) (sz : Nat) (av : List Value) : FrameBlind (va_Pc av (x_B b D ad cI sh σ sz)) := by
  intro a U g mk q
  obtain ⟨q0, q1, qP, qK, qD, qE⟩ := q
  exact ⟨q0, q1, qP, va_K.moved (u := U) (U := U.calling g mk a) (Vm.Alike.refl U.vm) qK, qD, qE.calling⟩
theorem x_len (y : MethodName) {M : xM} (hc : Cond.code y M.2.1 M.2.2.1 M.2.2.2 ∈ xT) : ∀ w ∈ (Cond.code y M.2.1 M.2.2.1 M.2.2.2 :: xT), w ∈ xT := fun w hw => (List.mem_cons.mp hw).elim (fun e => e ▸ hc) id
def x_SL (own : String) (index : Nat) (y : MethodName) (M : xM) (n : Nat) : Prop := (Cond.methodLink own index y ∈ xT ∧ Cond.static y ∈ xT ∧ Cond.initialized y.cls ∈ xT ∧ Cond.code y M.2.1 M.2.2.1 M.2.2.2 ∈ xT) ∧ (y.cls ≠ "java/lang/invoke/MethodHandle" ∧ y.cls ≠ "java/lang/invoke/VarHandle" ∧ (parseMethodDescriptor y.desc).map (fun d => d.parameters.length) = some n) ∧ M.2.2.1 ≤ 45
def x_SN (own : String) (index : Nat) (y : MethodName) (M : xM) (n : Nat) : Prop := (True ∧ Cond.static y ∈ xT ∧ Cond.initialized y.cls ∈ xT ∧ Cond.code y M.2.1 M.2.2.1 M.2.2.2 ∈ xT) ∧ (y.cls ≠ "java/lang/invoke/MethodHandle" ∧ y.cls ≠ "java/lang/invoke/VarHandle" ∧ (parseMethodDescriptor y.desc).map (fun d => d.parameters.length) = some n) ∧ M.2.2.1 ≤ 45
def x_VL (own : String) (index : Nat) (y : MethodName) (M : xM) (n : Nat) : Prop := (Cond.methodLink own index y ∈ xT ∧ Cond.instanceMethod y ∈ xT ∧ Cond.selects y.cls y y ∈ xT ∧ Cond.initialized y.cls ∈ xT ∧ Cond.code y M.2.1 M.2.2.1 M.2.2.2 ∈ xT) ∧ (y.cls ≠ "java/lang/invoke/MethodHandle" ∧ y.cls ≠ "java/lang/invoke/VarHandle" ∧ (parseMethodDescriptor y.desc).map (fun d => d.parameters.length) = some n) ∧ M.2.2.1 ≤ 45
theorem x_room {h h' n : Nat} (hh : h' + 1 ≤ h) (hn : n ≤ 45) : (x_rm h').frames + 1 ≤ (x_rm h).frames ∧ 8 + (n + 11) + (x_rm h').locals ≤ (x_rm h).locals := ⟨hh, by show 8 + (n + 11) + 64 * h' ≤ 64 * h; omega⟩
theorem x_run {p : Program} {l : Launch} {e : Env} {s : State} {m : MethodId} {args : Array Value} {below : List Frame} {meth : Method} {c : Code} {R : Room} {H : Heap} {locs : List Loc} {Q : State → Prop} {pc : Nat} {ls : Array Slot} {rest st0 : List Value} {a : Array Value} {A A1 : Nat → Prop} {free : Addr → Prop} {D : va_G} {ad : Nat → Nat} {cI : ClassId} {rv : Option Value} {σ1 : xSt}
    (hr : va_Run p l e R s m args below meth c H locs 0 0 0 0 (F0 m pc ls st0) rest (x_Q D ad cI sh A1 rv σ1 a) free) (hS : va_S A s.heap H locs) (hA : ∀ q, q < H.size → A1 q → A q) (hf : ∀ q, free q → A q)
    (kk : ∀ (H1 : Heap) (locs1 : List Loc), va_P D CL (x_w ad cI sh σ1) H1 → va_S A s.heap H1 locs1 → W p l e R s m args below meth c H1 locs1 0 0 Q (F0 m (pc + 3) ls ((rv.map (x_v ad)).toList ++ rest))) : W p l e R s m args below meth c H locs 0 0 Q (F0 m pc ls st0) := by
  intro T hT X
  obtain ⟨v, st₀, t, T', L, h0, X', hL, e1, e2, ⟨hv, hp, hk, hz, hkk⟩, st⟩ := hr T hT X
  cases hv
  rw [h0] at hz hkk
  obtain ⟨t2, a1, b1⟩ := kk T'.heap (locs ++ L) (by rw [e1]; exact hp)
    ⟨Nat.le_trans hS.1 (by rw [e1]; exact hz), fun q h1 h2 => by rw [e1, hkk q (Nat.lt_of_lt_of_le h1 hS.1) (fun z => h2 (hA q (Nat.lt_of_lt_of_le h1 hS.1) z))]; exact hS.2.1 q h1 h2, fun q hq => by
      rcases List.mem_append.mp hq with h | h
      · exact hS.2.2 q h
      · exact hf _ (hL q h)⟩ T' rfl X'
  exact ⟨t2, st t2 a1, b1⟩
theorem x_free {ad : Nat → Nat} {cI : ClassId} {A : Nat → Prop} {H0 H : Heap} {locs : List Loc} (hD : va_D A (x_w ad cI sh σ)) (hS : va_S A H0 H locs) (hA : ∀ q, H0.size ≤ q → A q) : ∀ q, va_A (x_w ad cI sh σ) H.size q → A q := by
  rintro q (⟨k, e, hk⟩ | hq)
  · exact hD.2 k _ hk
  · exact hA q (Nat.le_trans hS.1 hq)
theorem x_callS {ρ' : Type} {κ' : ρ' → Option Value} {y : MethodName} {M' : xM} {h' n index : Nat} {av : List Value} {oc : Option (ρ' × xSt)} {k : ρ' → xSt → Option (ρ × xSt)} (hd : decode M.2.1 pc = .ok (.invokestatic index, 3)) (hl : x_SL M.1 index y M' n) (hc : CON κ' y M' b h' sh av σ oc) (hh : Nat.ble (h' + 1) h = true) (hn : av.length = n) (hw : Nat.ble ((S.map fun v => v.category).sum) 8 = true)
    (kk : ∀ r σ1, XP κ b M h sh (pc + 3) L ((κ' r).toList ++ S) σ1 (k r σ1)) : XP κ b M h sh pc L (av.reverse ++ S) σ (bnd oc k) := by
  cases ho : oc with
  | none => exact x_none
  | some q =>
    obtain ⟨r1, σ1⟩ := q
    show XP κ b M h sh pc L (av.reverse ++ S) σ (k r1 σ1)
    have hcn := hc r1 σ1 ho
    intro r σ' ho p l e s m args below meth c D ad cI A hC hK hD hA hE H locs ls hP hS hL
    obtain ⟨⟨w1, w2, w3, w4⟩, hd3, hm⟩ := hl
    have hfr := x_free hD hS hA
    have hst : (av.reverse ++ S).map (x_v ad) = (av.map (x_v ad)).reverse ++ S.map (x_v ad) := by rw [List.map_append, List.map_reverse]
    rw [hst]
    refine x_run (A := A) (va_runS (nL := M.2.2.1) (As := av.map (x_v ad)) (rest := S.map (x_v ad)) (own := M.1) (Ts := xT) ⟨hC.1, hC.2.1, hC.2.2.2.1, hC.2.2.2.2.1, hC.2.2.2.2.2.2⟩ (hcn l D ad cI H.size) (va_cwS n hC.2.2.2.2.2.2 (x_GoodIn ?_) rfl rfl rfl hd3 (x_room (Nat.le_of_ble_eq_true hh) hm)) ⟨x_B_blind _ _ _ _ _ _ _ _, fun U hU hWm => ⟨rfl, by rw [hU], by rw [hU]; exact hP, va_K.moved hWm.alike hK, hD.weaken (fun _ _ _ _ => trivial), by rw [hU]; exact hE.go hWm hS.2.1 hfr⟩⟩ rfl (by rw [List.length_map]; exact hn) hL.1 rfl (by show 2 * 0 + _ ≤ 8; rw [x_sum]; have := Nat.le_of_ble_eq_true hw; omega) hd ⟨Nat.le_refl _, Nat.le_refl _⟩) hS (fun q _ h => hfr q h) hfr (fun H1 locs1 hP1 hS1 => ?_)
    · intro w hw
      simp only [va_wsS, List.mem_append, List.mem_cons, List.not_mem_nil, or_false] at hw
      rcases hw with (rfl | rfl | rfl) | rfl | hw
      · exact w1
      · exact w2
      · exact w3
      · exact w4
      · exact hw
    · have h9 := kk r1 σ1 r σ' ho p l e s m args below meth c D ad cI A hC hK (x_D hD) hA hE H1 locs1 ls hP1 hS1 hL
      rw [List.map_append] at h9
      cases hk9 : κ' r1 with
      | none => rw [hk9] at h9; exact h9
      | some v => rw [hk9] at h9; exact h9
theorem x_callN {ρ' : Type} {κ' : ρ' → Option Value} {y : MethodName} {M' : xM} {h' n index : Nat} {av : List Value} {oc : Option (ρ' × xSt)} {k : ρ' → xSt → Option (ρ × xSt)} (hd : decode M.2.1 pc = .ok (.invokestatic index, 3)) (hl : x_SN M.1 index y M' n) {host : String} (hl2 : ∀ (ad : Nat → Nat) (A : Nat → Prop) (U : State) (H : Heap), x_E b ad A U H → va_Nw (.methodLinkNest M.1 index y host) U) (hc : CON κ' y M' b h' sh av σ oc) (hh : Nat.ble (h' + 1) h = true) (hn : av.length = n) (hw : Nat.ble ((S.map fun v => v.category).sum) 8 = true)
    (kk : ∀ r σ1, XP κ b M h sh (pc + 3) L ((κ' r).toList ++ S) σ1 (k r σ1)) : XP κ b M h sh pc L (av.reverse ++ S) σ (bnd oc k) := by
  cases ho : oc with
  | none => exact x_none
  | some q =>
    obtain ⟨r1, σ1⟩ := q
    show XP κ b M h sh pc L (av.reverse ++ S) σ (k r1 σ1)
    have hcn := hc r1 σ1 ho
    intro r σ' ho p l e s m args below meth c D ad cI A hC hK hD hA hE H locs ls hP hS hL
    obtain ⟨⟨-, w2, w3, w4⟩, hd3, hm⟩ := hl
    have w1 := hl2 _ _ _ _ hE
    have hfr := x_free hD hS hA
    have hst : (av.reverse ++ S).map (x_v ad) = (av.map (x_v ad)).reverse ++ S.map (x_v ad) := by rw [List.map_append, List.map_reverse]
    rw [hst]
    refine x_run (A := A) (va_runSN (nL := M.2.2.1) (As := av.map (x_v ad)) (rest := S.map (x_v ad)) (own := M.1) (Ts := xT) ⟨hC.1, hC.2.1, hC.2.2.2.1, hC.2.2.2.2.1, hC.2.2.2.2.2.2⟩ (hcn l D ad cI H.size) ⟨va_cnB n hC.2.2.2.2.2.2 (x_GoodIn (x_len y w4)) rfl rfl rfl w1 (hC.2.2.2.2.2.2 _ w3) hd3 (x_room (Nat.le_of_ble_eq_true hh) hm), hC.2.2.2.2.2.2 _ w2, trivial⟩ ⟨x_B_blind _ _ _ _ _ _ _ _, fun U hU hWm => ⟨rfl, by rw [hU], by rw [hU]; exact hP, va_K.moved hWm.alike hK, hD.weaken (fun _ _ _ _ => trivial), by rw [hU]; exact hE.go hWm hS.2.1 hfr⟩⟩ rfl (by rw [List.length_map]; exact hn) hL.1 rfl (by show 2 * 0 + _ ≤ 8; rw [x_sum]; have := Nat.le_of_ble_eq_true hw; omega) hd ⟨Nat.le_refl _, Nat.le_refl _⟩) hS (fun q _ h => hfr q h) hfr (fun H1 locs1 hP1 hS1 => ?_)
    have h9 := kk r1 σ1 r σ' ho p l e s m args below meth c D ad cI A hC hK (x_D hD) hA hE H1 locs1 ls hP1 hS1 hL
    rw [List.map_append] at h9
    cases hk9 : κ' r1 with
    | none => rw [hk9] at h9; exact h9
    | some v => rw [hk9] at h9; exact h9
theorem x_callV {ρ' : Type} {κ' : ρ' → Option Value} {y : MethodName} {M' : xM} {h' n index i ci : Nat} {q : vw_C} {fs : List (Option Nat × Bool)} {av : List Value} {oc : Option (ρ' × xSt)} {k : ρ' → xSt → Option (ρ × xSt)} (hd : decode M.2.1 pc = .ok (.invokevirtual index, 3)) (hl : x_VL M.1 index y M' n) (hc : CON κ' y M' b h' sh (.ref i :: av) σ oc) (he : sh[i]? = some (.inr (ci, fs))) (hcl : CL[ci]? = some q) (hq : q.1 = y.cls) (hh : Nat.ble (h' + 1) h = true) (hn : av.length = n) (hw : Nat.ble ((S.map fun v => v.category).sum) 8 = true)
    (kk : ∀ r σ1, XP κ b M h sh (pc + 3) L ((κ' r).toList ++ S) σ1 (k r σ1)) : XP κ b M h sh pc L (av.reverse ++ .ref i :: S) σ (bnd oc k) := by
  cases ho : oc with
  | none => exact x_none
  | some q =>
    obtain ⟨r1, σ1⟩ := q
    show XP κ b M h sh pc L (av.reverse ++ .ref i :: S) σ (k r1 σ1)
    have hcn := hc r1 σ1 ho
    intro r σ' ho p l e s m args below meth c D ad cI A hC hK hD hA hE H locs ls hP hS hL
    obtain ⟨⟨w1, w2, w5, w3, w4⟩, hd3, hm⟩ := hl
    have hfr := x_free hD hS hA
    have hst : (av.reverse ++ .ref i :: S).map (x_v ad) = (av.map (x_v ad)).reverse ++ .ref (ad i) :: S.map (x_v ad) := by rw [List.map_append, List.map_reverse]; rfl
    rw [hst]
    refine x_run (A := A) (va_runV (nL := M.2.2.1) (C := y.cls) (b := ad i) (As := av.map (x_v ad)) (rest := S.map (x_v ad)) (own := M.1) (Ts := xT) ⟨hC.1, hC.2.1, hC.2.2.2.1, hC.2.2.2.2.1, hC.2.2.2.2.2.2⟩ (hcn l D ad cI H.size) (cwV n hC.2.2.2.2.2.2 (x_GoodIn ?_) rfl rfl rfl ⟨rfl, hd3⟩ (x_room (Nat.le_of_ble_eq_true hh) hm)) ⟨x_B_blind _ _ _ _ _ _ _ _, hq ▸ va_recv hK hP hcl (x_w_at he), fun U hU hWm => ⟨rfl, by rw [hU], by rw [hU]; exact hP, va_K.moved hWm.alike hK, hD.weaken (fun _ _ _ _ => trivial), by rw [hU]; exact hE.go hWm hS.2.1 hfr⟩⟩ rfl (by rw [List.length_map]; exact hn) hL.1 rfl (by show 2 * 0 + _ ≤ 8; rw [x_sum]; have := Nat.le_of_ble_eq_true hw; omega) hd ⟨Nat.le_refl _, Nat.le_refl _⟩) hS (fun q _ h => hfr q h) hfr (fun H1 locs1 hP1 hS1 => ?_)
    · intro w hw
      simp only [wsV, List.mem_append, List.mem_cons, List.not_mem_nil, or_false] at hw
      rcases hw with (rfl | rfl | rfl | rfl) | rfl | hw
      · exact w1
      · exact w2
      · exact w5
      · exact w3
      · exact w4
      · exact hw
    · have h9 := kk r1 σ1 r σ' ho p l e s m args below meth c D ad cI A hC hK (x_D hD) hA hE H1 locs1 ls hP1 hS1 hL
      rw [List.map_append] at h9
      cases hk9 : κ' r1 with
      | none => rw [hk9] at h9; exact h9
      | some v => rw [hk9] at h9; exact h9
/-- a method's contract out of its walk -/
theorem x_con {y : MethodName} {av : List Value} (hy : plainName y.cls = true) (ho : M.1 = y.cls) (hn : Nat.ble (lg_sl (av.map fun v => v)).length M.2.2.1 = true) (hL : x_ent av ++ List.replicate (M.2.2.1 - (x_ent av).length) none = L) (k : XP κ b M h sh 0 L [] σ o) : CON κ y M b h sh av σ o := by
  intro r σ' hor l D ad cI sz
  refine Met.ofW (cc := M.2.1) (maxL := M.2.2.1) (ret := M.2.2.2) hy rfl ?_
  intro p e s m args below meth c s₁ B hml hv
  obtain ⟨rfl, hsz, hP, hK, hD0, hE⟩ := hv
  have hts := atoms_spec (ws := (.code y M.2.1 M.2.2.1 M.2.2.2 :: xT)) B.pre
  have hown : s.vm.findClass y.cls = some m.cls := findClass_of_methodNamed B.named
  subst hsz
  have hD := hD0.self (sz := s.heap.size)
  have hlen : ∀ av : List Value, (lg_sl (av.map (x_v ad))).length = (lg_sl (av.map fun v => v)).length := by
    intro av
    induction av with
    | nil => rfl
    | cons v av ih => simp only [lg_sl, List.map_cons, List.flatMap_cons, List.length_append, x_v_cat] at ih ⊢; rw [ih]; split <;> rfl
  have hl := lv_entry (av.map (x_v ad)) (n := M.2.2.1) (by rw [hlen]; exact Nat.le_of_ble_eq_true hn)
  rw [lg_entry_eq]
  generalize (lg_sl (av.map (x_v ad)) ++ List.replicate (M.2.2.1 - (lg_sl (av.map (x_v ad))).length) Slot.unset).toArray = ls at hl ⊢
  refine k r σ' hor p l e s m _ below meth c D ad cI (va_A (x_w ad cI sh σ) s.heap.size) ⟨B.exec, B.bytes, B.returns, hml, ho ▸ hown, B.notSynchronized, fun w hw => hts w (List.mem_cons_of_mem _ hw)⟩ hK hD (fun q h => Or.inr h) hE s.heap [] ls hP va_S.rf ⟨hl.1, hl.2.1, fun i v hi => ?_⟩
  rw [← hL] at hi
  have hi2 : (x_ent av)[i]? = some (some v) := by
    by_cases hlt : i < (x_ent av).length
    · rwa [List.getElem?_append_left hlt] at hi
    · rw [List.getElem?_append_right (Nat.not_lt.mp hlt), List.getElem?_replicate] at hi
      split at hi <;> simp at hi
  have h3 := hl.2.2 _ (x_ent_args ad av 0 i v hi2)
  simpa using h3

theorem x_callS0i {y : MethodName} {M' : xM} {h' index : Nat} {oc : Option (Int32 × xSt)} {k : Int32 → xSt → Option (ρ × xSt)} (hd : decode M.2.1 pc = .ok (.invokestatic index, 3)) (hl : x_SL M.1 index y M' 0) (hc : CON κi y M' b h' sh [] σ oc) (hh : Nat.ble (h' + 1) h = true) (hw : Nat.ble ((S.map fun v => v.category).sum) 8 = true) (kk : ∀ (r : Int32) (σ1 : xSt), XP κ b M h sh (pc + 3) L (.int r :: S) σ1 (k r σ1)) : XP κ b M h sh pc L (S) σ (bnd oc k) := x_callS (av := []) hd hl hc hh rfl hw kk
theorem x_callS0v {y : MethodName} {M' : xM} {h' index : Nat} {oc : Option (Unit × xSt)} {k : Unit → xSt → Option (ρ × xSt)} (hd : decode M.2.1 pc = .ok (.invokestatic index, 3)) (hl : x_SL M.1 index y M' 0) (hc : CON κv y M' b h' sh [] σ oc) (hh : Nat.ble (h' + 1) h = true) (hw : Nat.ble ((S.map fun v => v.category).sum) 8 = true) (kk : ∀ (r : Unit) (σ1 : xSt), XP κ b M h sh (pc + 3) L S σ1 (k r σ1)) : XP κ b M h sh pc L (S) σ (bnd oc k) := x_callS (av := []) hd hl hc hh rfl hw kk
theorem x_callS0l {y : MethodName} {M' : xM} {h' index : Nat} {oc : Option (Int64 × xSt)} {k : Int64 → xSt → Option (ρ × xSt)} (hd : decode M.2.1 pc = .ok (.invokestatic index, 3)) (hl : x_SL M.1 index y M' 0) (hc : CON κl y M' b h' sh [] σ oc) (hh : Nat.ble (h' + 1) h = true) (hw : Nat.ble ((S.map fun v => v.category).sum) 8 = true) (kk : ∀ (r : Int64) (σ1 : xSt), XP κ b M h sh (pc + 3) L (.long r :: S) σ1 (k r σ1)) : XP κ b M h sh pc L (S) σ (bnd oc k) := x_callS (av := []) hd hl hc hh rfl hw kk
theorem x_callS0a {y : MethodName} {M' : xM} {h' index : Nat} {oc : Option (Nat × xSt)} {k : Nat → xSt → Option (ρ × xSt)} (hd : decode M.2.1 pc = .ok (.invokestatic index, 3)) (hl : x_SL M.1 index y M' 0) (hc : CON κa y M' b h' sh [] σ oc) (hh : Nat.ble (h' + 1) h = true) (hw : Nat.ble ((S.map fun v => v.category).sum) 8 = true) (kk : ∀ (r : Nat) (σ1 : xSt), XP κ b M h sh (pc + 3) L (.ref r :: S) σ1 (k r σ1)) : XP κ b M h sh pc L (S) σ (bnd oc k) := x_callS (av := []) hd hl hc hh rfl hw kk
theorem x_callS1i {y : MethodName} {M' : xM} {h' index : Nat} {a1 : Value} {oc : Option (Int32 × xSt)} {k : Int32 → xSt → Option (ρ × xSt)} (hd : decode M.2.1 pc = .ok (.invokestatic index, 3)) (hl : x_SL M.1 index y M' 1) (hc : CON κi y M' b h' sh [a1] σ oc) (hh : Nat.ble (h' + 1) h = true) (hw : Nat.ble ((S.map fun v => v.category).sum) 8 = true) (kk : ∀ (r : Int32) (σ1 : xSt), XP κ b M h sh (pc + 3) L (.int r :: S) σ1 (k r σ1)) : XP κ b M h sh pc L (a1 :: S) σ (bnd oc k) := x_callS (av := [a1]) hd hl hc hh rfl hw kk
theorem x_callS1v {y : MethodName} {M' : xM} {h' index : Nat} {a1 : Value} {oc : Option (Unit × xSt)} {k : Unit → xSt → Option (ρ × xSt)} (hd : decode M.2.1 pc = .ok (.invokestatic index, 3)) (hl : x_SL M.1 index y M' 1) (hc : CON κv y M' b h' sh [a1] σ oc) (hh : Nat.ble (h' + 1) h = true) (hw : Nat.ble ((S.map fun v => v.category).sum) 8 = true) (kk : ∀ (r : Unit) (σ1 : xSt), XP κ b M h sh (pc + 3) L S σ1 (k r σ1)) : XP κ b M h sh pc L (a1 :: S) σ (bnd oc k) := x_callS (av := [a1]) hd hl hc hh rfl hw kk
theorem x_callS1l {y : MethodName} {M' : xM} {h' index : Nat} {a1 : Value} {oc : Option (Int64 × xSt)} {k : Int64 → xSt → Option (ρ × xSt)} (hd : decode M.2.1 pc = .ok (.invokestatic index, 3)) (hl : x_SL M.1 index y M' 1) (hc : CON κl y M' b h' sh [a1] σ oc) (hh : Nat.ble (h' + 1) h = true) (hw : Nat.ble ((S.map fun v => v.category).sum) 8 = true) (kk : ∀ (r : Int64) (σ1 : xSt), XP κ b M h sh (pc + 3) L (.long r :: S) σ1 (k r σ1)) : XP κ b M h sh pc L (a1 :: S) σ (bnd oc k) := x_callS (av := [a1]) hd hl hc hh rfl hw kk
theorem x_callS1a {y : MethodName} {M' : xM} {h' index : Nat} {a1 : Value} {oc : Option (Nat × xSt)} {k : Nat → xSt → Option (ρ × xSt)} (hd : decode M.2.1 pc = .ok (.invokestatic index, 3)) (hl : x_SL M.1 index y M' 1) (hc : CON κa y M' b h' sh [a1] σ oc) (hh : Nat.ble (h' + 1) h = true) (hw : Nat.ble ((S.map fun v => v.category).sum) 8 = true) (kk : ∀ (r : Nat) (σ1 : xSt), XP κ b M h sh (pc + 3) L (.ref r :: S) σ1 (k r σ1)) : XP κ b M h sh pc L (a1 :: S) σ (bnd oc k) := x_callS (av := [a1]) hd hl hc hh rfl hw kk
theorem x_callS2i {y : MethodName} {M' : xM} {h' index : Nat} {a1 a2 : Value} {oc : Option (Int32 × xSt)} {k : Int32 → xSt → Option (ρ × xSt)} (hd : decode M.2.1 pc = .ok (.invokestatic index, 3)) (hl : x_SL M.1 index y M' 2) (hc : CON κi y M' b h' sh [a1, a2] σ oc) (hh : Nat.ble (h' + 1) h = true) (hw : Nat.ble ((S.map fun v => v.category).sum) 8 = true) (kk : ∀ (r : Int32) (σ1 : xSt), XP κ b M h sh (pc + 3) L (.int r :: S) σ1 (k r σ1)) : XP κ b M h sh pc L (a2 :: a1 :: S) σ (bnd oc k) := x_callS (av := [a1, a2]) hd hl hc hh rfl hw kk
theorem x_callS2v {y : MethodName} {M' : xM} {h' index : Nat} {a1 a2 : Value} {oc : Option (Unit × xSt)} {k : Unit → xSt → Option (ρ × xSt)} (hd : decode M.2.1 pc = .ok (.invokestatic index, 3)) (hl : x_SL M.1 index y M' 2) (hc : CON κv y M' b h' sh [a1, a2] σ oc) (hh : Nat.ble (h' + 1) h = true) (hw : Nat.ble ((S.map fun v => v.category).sum) 8 = true) (kk : ∀ (r : Unit) (σ1 : xSt), XP κ b M h sh (pc + 3) L S σ1 (k r σ1)) : XP κ b M h sh pc L (a2 :: a1 :: S) σ (bnd oc k) := x_callS (av := [a1, a2]) hd hl hc hh rfl hw kk
theorem x_callS2l {y : MethodName} {M' : xM} {h' index : Nat} {a1 a2 : Value} {oc : Option (Int64 × xSt)} {k : Int64 → xSt → Option (ρ × xSt)} (hd : decode M.2.1 pc = .ok (.invokestatic index, 3)) (hl : x_SL M.1 index y M' 2) (hc : CON κl y M' b h' sh [a1, a2] σ oc) (hh : Nat.ble (h' + 1) h = true) (hw : Nat.ble ((S.map fun v => v.category).sum) 8 = true) (kk : ∀ (r : Int64) (σ1 : xSt), XP κ b M h sh (pc + 3) L (.long r :: S) σ1 (k r σ1)) : XP κ b M h sh pc L (a2 :: a1 :: S) σ (bnd oc k) := x_callS (av := [a1, a2]) hd hl hc hh rfl hw kk
theorem x_callS2a {y : MethodName} {M' : xM} {h' index : Nat} {a1 a2 : Value} {oc : Option (Nat × xSt)} {k : Nat → xSt → Option (ρ × xSt)} (hd : decode M.2.1 pc = .ok (.invokestatic index, 3)) (hl : x_SL M.1 index y M' 2) (hc : CON κa y M' b h' sh [a1, a2] σ oc) (hh : Nat.ble (h' + 1) h = true) (hw : Nat.ble ((S.map fun v => v.category).sum) 8 = true) (kk : ∀ (r : Nat) (σ1 : xSt), XP κ b M h sh (pc + 3) L (.ref r :: S) σ1 (k r σ1)) : XP κ b M h sh pc L (a2 :: a1 :: S) σ (bnd oc k) := x_callS (av := [a1, a2]) hd hl hc hh rfl hw kk
theorem x_callS3i {y : MethodName} {M' : xM} {h' index : Nat} {a1 a2 a3 : Value} {oc : Option (Int32 × xSt)} {k : Int32 → xSt → Option (ρ × xSt)} (hd : decode M.2.1 pc = .ok (.invokestatic index, 3)) (hl : x_SL M.1 index y M' 3) (hc : CON κi y M' b h' sh [a1, a2, a3] σ oc) (hh : Nat.ble (h' + 1) h = true) (hw : Nat.ble ((S.map fun v => v.category).sum) 8 = true) (kk : ∀ (r : Int32) (σ1 : xSt), XP κ b M h sh (pc + 3) L (.int r :: S) σ1 (k r σ1)) : XP κ b M h sh pc L (a3 :: a2 :: a1 :: S) σ (bnd oc k) := x_callS (av := [a1, a2, a3]) hd hl hc hh rfl hw kk
theorem x_callS3v {y : MethodName} {M' : xM} {h' index : Nat} {a1 a2 a3 : Value} {oc : Option (Unit × xSt)} {k : Unit → xSt → Option (ρ × xSt)} (hd : decode M.2.1 pc = .ok (.invokestatic index, 3)) (hl : x_SL M.1 index y M' 3) (hc : CON κv y M' b h' sh [a1, a2, a3] σ oc) (hh : Nat.ble (h' + 1) h = true) (hw : Nat.ble ((S.map fun v => v.category).sum) 8 = true) (kk : ∀ (r : Unit) (σ1 : xSt), XP κ b M h sh (pc + 3) L S σ1 (k r σ1)) : XP κ b M h sh pc L (a3 :: a2 :: a1 :: S) σ (bnd oc k) := x_callS (av := [a1, a2, a3]) hd hl hc hh rfl hw kk
theorem x_callS3l {y : MethodName} {M' : xM} {h' index : Nat} {a1 a2 a3 : Value} {oc : Option (Int64 × xSt)} {k : Int64 → xSt → Option (ρ × xSt)} (hd : decode M.2.1 pc = .ok (.invokestatic index, 3)) (hl : x_SL M.1 index y M' 3) (hc : CON κl y M' b h' sh [a1, a2, a3] σ oc) (hh : Nat.ble (h' + 1) h = true) (hw : Nat.ble ((S.map fun v => v.category).sum) 8 = true) (kk : ∀ (r : Int64) (σ1 : xSt), XP κ b M h sh (pc + 3) L (.long r :: S) σ1 (k r σ1)) : XP κ b M h sh pc L (a3 :: a2 :: a1 :: S) σ (bnd oc k) := x_callS (av := [a1, a2, a3]) hd hl hc hh rfl hw kk
theorem x_callS3a {y : MethodName} {M' : xM} {h' index : Nat} {a1 a2 a3 : Value} {oc : Option (Nat × xSt)} {k : Nat → xSt → Option (ρ × xSt)} (hd : decode M.2.1 pc = .ok (.invokestatic index, 3)) (hl : x_SL M.1 index y M' 3) (hc : CON κa y M' b h' sh [a1, a2, a3] σ oc) (hh : Nat.ble (h' + 1) h = true) (hw : Nat.ble ((S.map fun v => v.category).sum) 8 = true) (kk : ∀ (r : Nat) (σ1 : xSt), XP κ b M h sh (pc + 3) L (.ref r :: S) σ1 (k r σ1)) : XP κ b M h sh pc L (a3 :: a2 :: a1 :: S) σ (bnd oc k) := x_callS (av := [a1, a2, a3]) hd hl hc hh rfl hw kk
theorem x_callS4i {y : MethodName} {M' : xM} {h' index : Nat} {a1 a2 a3 a4 : Value} {oc : Option (Int32 × xSt)} {k : Int32 → xSt → Option (ρ × xSt)} (hd : decode M.2.1 pc = .ok (.invokestatic index, 3)) (hl : x_SL M.1 index y M' 4) (hc : CON κi y M' b h' sh [a1, a2, a3, a4] σ oc) (hh : Nat.ble (h' + 1) h = true) (hw : Nat.ble ((S.map fun v => v.category).sum) 8 = true) (kk : ∀ (r : Int32) (σ1 : xSt), XP κ b M h sh (pc + 3) L (.int r :: S) σ1 (k r σ1)) : XP κ b M h sh pc L (a4 :: a3 :: a2 :: a1 :: S) σ (bnd oc k) := x_callS (av := [a1, a2, a3, a4]) hd hl hc hh rfl hw kk
theorem x_callS4v {y : MethodName} {M' : xM} {h' index : Nat} {a1 a2 a3 a4 : Value} {oc : Option (Unit × xSt)} {k : Unit → xSt → Option (ρ × xSt)} (hd : decode M.2.1 pc = .ok (.invokestatic index, 3)) (hl : x_SL M.1 index y M' 4) (hc : CON κv y M' b h' sh [a1, a2, a3, a4] σ oc) (hh : Nat.ble (h' + 1) h = true) (hw : Nat.ble ((S.map fun v => v.category).sum) 8 = true) (kk : ∀ (r : Unit) (σ1 : xSt), XP κ b M h sh (pc + 3) L S σ1 (k r σ1)) : XP κ b M h sh pc L (a4 :: a3 :: a2 :: a1 :: S) σ (bnd oc k) := x_callS (av := [a1, a2, a3, a4]) hd hl hc hh rfl hw kk
theorem x_callS5i {y : MethodName} {M' : xM} {h' index : Nat} {a1 a2 a3 a4 a5 : Value} {oc : Option (Int32 × xSt)} {k : Int32 → xSt → Option (ρ × xSt)} (hd : decode M.2.1 pc = .ok (.invokestatic index, 3)) (hl : x_SL M.1 index y M' 5) (hc : CON κi y M' b h' sh [a1, a2, a3, a4, a5] σ oc) (hh : Nat.ble (h' + 1) h = true) (hw : Nat.ble ((S.map fun v => v.category).sum) 8 = true) (kk : ∀ (r : Int32) (σ1 : xSt), XP κ b M h sh (pc + 3) L (.int r :: S) σ1 (k r σ1)) : XP κ b M h sh pc L (a5 :: a4 :: a3 :: a2 :: a1 :: S) σ (bnd oc k) := x_callS (av := [a1, a2, a3, a4, a5]) hd hl hc hh rfl hw kk
theorem x_callS5v {y : MethodName} {M' : xM} {h' index : Nat} {a1 a2 a3 a4 a5 : Value} {oc : Option (Unit × xSt)} {k : Unit → xSt → Option (ρ × xSt)} (hd : decode M.2.1 pc = .ok (.invokestatic index, 3)) (hl : x_SL M.1 index y M' 5) (hc : CON κv y M' b h' sh [a1, a2, a3, a4, a5] σ oc) (hh : Nat.ble (h' + 1) h = true) (hw : Nat.ble ((S.map fun v => v.category).sum) 8 = true) (kk : ∀ (r : Unit) (σ1 : xSt), XP κ b M h sh (pc + 3) L S σ1 (k r σ1)) : XP κ b M h sh pc L (a5 :: a4 :: a3 :: a2 :: a1 :: S) σ (bnd oc k) := x_callS (av := [a1, a2, a3, a4, a5]) hd hl hc hh rfl hw kk
theorem x_callN1i {y : MethodName} {M' : xM} {h' index : Nat} {a1 : Value} {oc : Option (Int32 × xSt)} {k : Int32 → xSt → Option (ρ × xSt)} (hd : decode M.2.1 pc = .ok (.invokestatic index, 3)) (hl : x_SN M.1 index y M' 1) {host : String} (hl2 : ∀ (ad : Nat → Nat) (A : Nat → Prop) (U : State) (H : Heap), x_E b ad A U H → va_Nw (.methodLinkNest M.1 index y host) U) (hc : CON κi y M' b h' sh [a1] σ oc) (hh : Nat.ble (h' + 1) h = true) (hw : Nat.ble ((S.map fun v => v.category).sum) 8 = true) (kk : ∀ (r : Int32) (σ1 : xSt), XP κ b M h sh (pc + 3) L (.int r :: S) σ1 (k r σ1)) : XP κ b M h sh pc L (a1 :: S) σ (bnd oc k) := x_callN (av := [a1]) hd hl hl2 hc hh rfl hw kk
theorem x_callV0i {y : MethodName} {M' : xM} {h' index : Nat} {i ci : Nat} {q : vw_C} {fs : List (Option Nat × Bool)} {oc : Option (Int32 × xSt)} {k : Int32 → xSt → Option (ρ × xSt)} (hd : decode M.2.1 pc = .ok (.invokevirtual index, 3)) (hl : x_VL M.1 index y M' 0) (hc : CON κi y M' b h' sh [.ref i] σ oc) (he : sh[i]? = some (.inr (ci, fs))) (hcl : CL[ci]? = some q) (hq : q.1 = y.cls) (hh : Nat.ble (h' + 1) h = true) (hw : Nat.ble ((S.map fun v => v.category).sum) 8 = true) (kk : ∀ (r : Int32) (σ1 : xSt), XP κ b M h sh (pc + 3) L (.int r :: S) σ1 (k r σ1)) : XP κ b M h sh pc L (.ref i :: S) σ (bnd oc k) := x_callV (av := []) hd hl hc he hcl hq hh rfl hw kk
theorem x_callV0v {y : MethodName} {M' : xM} {h' index : Nat} {i ci : Nat} {q : vw_C} {fs : List (Option Nat × Bool)} {oc : Option (Unit × xSt)} {k : Unit → xSt → Option (ρ × xSt)} (hd : decode M.2.1 pc = .ok (.invokevirtual index, 3)) (hl : x_VL M.1 index y M' 0) (hc : CON κv y M' b h' sh [.ref i] σ oc) (he : sh[i]? = some (.inr (ci, fs))) (hcl : CL[ci]? = some q) (hq : q.1 = y.cls) (hh : Nat.ble (h' + 1) h = true) (hw : Nat.ble ((S.map fun v => v.category).sum) 8 = true) (kk : ∀ (r : Unit) (σ1 : xSt), XP κ b M h sh (pc + 3) L S σ1 (k r σ1)) : XP κ b M h sh pc L (.ref i :: S) σ (bnd oc k) := x_callV (av := []) hd hl hc he hcl hq hh rfl hw kk
theorem x_callV0l {y : MethodName} {M' : xM} {h' index : Nat} {i ci : Nat} {q : vw_C} {fs : List (Option Nat × Bool)} {oc : Option (Int64 × xSt)} {k : Int64 → xSt → Option (ρ × xSt)} (hd : decode M.2.1 pc = .ok (.invokevirtual index, 3)) (hl : x_VL M.1 index y M' 0) (hc : CON κl y M' b h' sh [.ref i] σ oc) (he : sh[i]? = some (.inr (ci, fs))) (hcl : CL[ci]? = some q) (hq : q.1 = y.cls) (hh : Nat.ble (h' + 1) h = true) (hw : Nat.ble ((S.map fun v => v.category).sum) 8 = true) (kk : ∀ (r : Int64) (σ1 : xSt), XP κ b M h sh (pc + 3) L (.long r :: S) σ1 (k r σ1)) : XP κ b M h sh pc L (.ref i :: S) σ (bnd oc k) := x_callV (av := []) hd hl hc he hcl hq hh rfl hw kk
theorem x_callV0a {y : MethodName} {M' : xM} {h' index : Nat} {i ci : Nat} {q : vw_C} {fs : List (Option Nat × Bool)} {oc : Option (Nat × xSt)} {k : Nat → xSt → Option (ρ × xSt)} (hd : decode M.2.1 pc = .ok (.invokevirtual index, 3)) (hl : x_VL M.1 index y M' 0) (hc : CON κa y M' b h' sh [.ref i] σ oc) (he : sh[i]? = some (.inr (ci, fs))) (hcl : CL[ci]? = some q) (hq : q.1 = y.cls) (hh : Nat.ble (h' + 1) h = true) (hw : Nat.ble ((S.map fun v => v.category).sum) 8 = true) (kk : ∀ (r : Nat) (σ1 : xSt), XP κ b M h sh (pc + 3) L (.ref r :: S) σ1 (k r σ1)) : XP κ b M h sh pc L (.ref i :: S) σ (bnd oc k) := x_callV (av := []) hd hl hc he hcl hq hh rfl hw kk
theorem x_callV1i {y : MethodName} {M' : xM} {h' index : Nat} {i ci : Nat} {q : vw_C} {fs : List (Option Nat × Bool)} {a1 : Value} {oc : Option (Int32 × xSt)} {k : Int32 → xSt → Option (ρ × xSt)} (hd : decode M.2.1 pc = .ok (.invokevirtual index, 3)) (hl : x_VL M.1 index y M' 1) (hc : CON κi y M' b h' sh [.ref i, a1] σ oc) (he : sh[i]? = some (.inr (ci, fs))) (hcl : CL[ci]? = some q) (hq : q.1 = y.cls) (hh : Nat.ble (h' + 1) h = true) (hw : Nat.ble ((S.map fun v => v.category).sum) 8 = true) (kk : ∀ (r : Int32) (σ1 : xSt), XP κ b M h sh (pc + 3) L (.int r :: S) σ1 (k r σ1)) : XP κ b M h sh pc L (a1 :: .ref i :: S) σ (bnd oc k) := x_callV (av := [a1]) hd hl hc he hcl hq hh rfl hw kk
theorem x_callV1v {y : MethodName} {M' : xM} {h' index : Nat} {i ci : Nat} {q : vw_C} {fs : List (Option Nat × Bool)} {a1 : Value} {oc : Option (Unit × xSt)} {k : Unit → xSt → Option (ρ × xSt)} (hd : decode M.2.1 pc = .ok (.invokevirtual index, 3)) (hl : x_VL M.1 index y M' 1) (hc : CON κv y M' b h' sh [.ref i, a1] σ oc) (he : sh[i]? = some (.inr (ci, fs))) (hcl : CL[ci]? = some q) (hq : q.1 = y.cls) (hh : Nat.ble (h' + 1) h = true) (hw : Nat.ble ((S.map fun v => v.category).sum) 8 = true) (kk : ∀ (r : Unit) (σ1 : xSt), XP κ b M h sh (pc + 3) L S σ1 (k r σ1)) : XP κ b M h sh pc L (a1 :: .ref i :: S) σ (bnd oc k) := x_callV (av := [a1]) hd hl hc he hcl hq hh rfl hw kk
theorem x_callV1l {y : MethodName} {M' : xM} {h' index : Nat} {i ci : Nat} {q : vw_C} {fs : List (Option Nat × Bool)} {a1 : Value} {oc : Option (Int64 × xSt)} {k : Int64 → xSt → Option (ρ × xSt)} (hd : decode M.2.1 pc = .ok (.invokevirtual index, 3)) (hl : x_VL M.1 index y M' 1) (hc : CON κl y M' b h' sh [.ref i, a1] σ oc) (he : sh[i]? = some (.inr (ci, fs))) (hcl : CL[ci]? = some q) (hq : q.1 = y.cls) (hh : Nat.ble (h' + 1) h = true) (hw : Nat.ble ((S.map fun v => v.category).sum) 8 = true) (kk : ∀ (r : Int64) (σ1 : xSt), XP κ b M h sh (pc + 3) L (.long r :: S) σ1 (k r σ1)) : XP κ b M h sh pc L (a1 :: .ref i :: S) σ (bnd oc k) := x_callV (av := [a1]) hd hl hc he hcl hq hh rfl hw kk
theorem x_callV1a {y : MethodName} {M' : xM} {h' index : Nat} {i ci : Nat} {q : vw_C} {fs : List (Option Nat × Bool)} {a1 : Value} {oc : Option (Nat × xSt)} {k : Nat → xSt → Option (ρ × xSt)} (hd : decode M.2.1 pc = .ok (.invokevirtual index, 3)) (hl : x_VL M.1 index y M' 1) (hc : CON κa y M' b h' sh [.ref i, a1] σ oc) (he : sh[i]? = some (.inr (ci, fs))) (hcl : CL[ci]? = some q) (hq : q.1 = y.cls) (hh : Nat.ble (h' + 1) h = true) (hw : Nat.ble ((S.map fun v => v.category).sum) 8 = true) (kk : ∀ (r : Nat) (σ1 : xSt), XP κ b M h sh (pc + 3) L (.ref r :: S) σ1 (k r σ1)) : XP κ b M h sh pc L (a1 :: .ref i :: S) σ (bnd oc k) := x_callV (av := [a1]) hd hl hc he hcl hq hh rfl hw kk
theorem x_callV2i {y : MethodName} {M' : xM} {h' index : Nat} {i ci : Nat} {q : vw_C} {fs : List (Option Nat × Bool)} {a1 a2 : Value} {oc : Option (Int32 × xSt)} {k : Int32 → xSt → Option (ρ × xSt)} (hd : decode M.2.1 pc = .ok (.invokevirtual index, 3)) (hl : x_VL M.1 index y M' 2) (hc : CON κi y M' b h' sh [.ref i, a1, a2] σ oc) (he : sh[i]? = some (.inr (ci, fs))) (hcl : CL[ci]? = some q) (hq : q.1 = y.cls) (hh : Nat.ble (h' + 1) h = true) (hw : Nat.ble ((S.map fun v => v.category).sum) 8 = true) (kk : ∀ (r : Int32) (σ1 : xSt), XP κ b M h sh (pc + 3) L (.int r :: S) σ1 (k r σ1)) : XP κ b M h sh pc L (a2 :: a1 :: .ref i :: S) σ (bnd oc k) := x_callV (av := [a1, a2]) hd hl hc he hcl hq hh rfl hw kk
theorem x_callV2v {y : MethodName} {M' : xM} {h' index : Nat} {i ci : Nat} {q : vw_C} {fs : List (Option Nat × Bool)} {a1 a2 : Value} {oc : Option (Unit × xSt)} {k : Unit → xSt → Option (ρ × xSt)} (hd : decode M.2.1 pc = .ok (.invokevirtual index, 3)) (hl : x_VL M.1 index y M' 2) (hc : CON κv y M' b h' sh [.ref i, a1, a2] σ oc) (he : sh[i]? = some (.inr (ci, fs))) (hcl : CL[ci]? = some q) (hq : q.1 = y.cls) (hh : Nat.ble (h' + 1) h = true) (hw : Nat.ble ((S.map fun v => v.category).sum) 8 = true) (kk : ∀ (r : Unit) (σ1 : xSt), XP κ b M h sh (pc + 3) L S σ1 (k r σ1)) : XP κ b M h sh pc L (a2 :: a1 :: .ref i :: S) σ (bnd oc k) := x_callV (av := [a1, a2]) hd hl hc he hcl hq hh rfl hw kk
theorem x_callV2l {y : MethodName} {M' : xM} {h' index : Nat} {i ci : Nat} {q : vw_C} {fs : List (Option Nat × Bool)} {a1 a2 : Value} {oc : Option (Int64 × xSt)} {k : Int64 → xSt → Option (ρ × xSt)} (hd : decode M.2.1 pc = .ok (.invokevirtual index, 3)) (hl : x_VL M.1 index y M' 2) (hc : CON κl y M' b h' sh [.ref i, a1, a2] σ oc) (he : sh[i]? = some (.inr (ci, fs))) (hcl : CL[ci]? = some q) (hq : q.1 = y.cls) (hh : Nat.ble (h' + 1) h = true) (hw : Nat.ble ((S.map fun v => v.category).sum) 8 = true) (kk : ∀ (r : Int64) (σ1 : xSt), XP κ b M h sh (pc + 3) L (.long r :: S) σ1 (k r σ1)) : XP κ b M h sh pc L (a2 :: a1 :: .ref i :: S) σ (bnd oc k) := x_callV (av := [a1, a2]) hd hl hc he hcl hq hh rfl hw kk
theorem x_callV2a {y : MethodName} {M' : xM} {h' index : Nat} {i ci : Nat} {q : vw_C} {fs : List (Option Nat × Bool)} {a1 a2 : Value} {oc : Option (Nat × xSt)} {k : Nat → xSt → Option (ρ × xSt)} (hd : decode M.2.1 pc = .ok (.invokevirtual index, 3)) (hl : x_VL M.1 index y M' 2) (hc : CON κa y M' b h' sh [.ref i, a1, a2] σ oc) (he : sh[i]? = some (.inr (ci, fs))) (hcl : CL[ci]? = some q) (hq : q.1 = y.cls) (hh : Nat.ble (h' + 1) h = true) (hw : Nat.ble ((S.map fun v => v.category).sum) 8 = true) (kk : ∀ (r : Nat) (σ1 : xSt), XP κ b M h sh (pc + 3) L (.ref r :: S) σ1 (k r σ1)) : XP κ b M h sh pc L (a2 :: a1 :: .ref i :: S) σ (bnd oc k) := x_callV (av := [a1, a2]) hd hl hc he hcl hq hh rfl hw kk
theorem x_callV3i {y : MethodName} {M' : xM} {h' index : Nat} {i ci : Nat} {q : vw_C} {fs : List (Option Nat × Bool)} {a1 a2 a3 : Value} {oc : Option (Int32 × xSt)} {k : Int32 → xSt → Option (ρ × xSt)} (hd : decode M.2.1 pc = .ok (.invokevirtual index, 3)) (hl : x_VL M.1 index y M' 3) (hc : CON κi y M' b h' sh [.ref i, a1, a2, a3] σ oc) (he : sh[i]? = some (.inr (ci, fs))) (hcl : CL[ci]? = some q) (hq : q.1 = y.cls) (hh : Nat.ble (h' + 1) h = true) (hw : Nat.ble ((S.map fun v => v.category).sum) 8 = true) (kk : ∀ (r : Int32) (σ1 : xSt), XP κ b M h sh (pc + 3) L (.int r :: S) σ1 (k r σ1)) : XP κ b M h sh pc L (a3 :: a2 :: a1 :: .ref i :: S) σ (bnd oc k) := x_callV (av := [a1, a2, a3]) hd hl hc he hcl hq hh rfl hw kk
theorem x_callV3v {y : MethodName} {M' : xM} {h' index : Nat} {i ci : Nat} {q : vw_C} {fs : List (Option Nat × Bool)} {a1 a2 a3 : Value} {oc : Option (Unit × xSt)} {k : Unit → xSt → Option (ρ × xSt)} (hd : decode M.2.1 pc = .ok (.invokevirtual index, 3)) (hl : x_VL M.1 index y M' 3) (hc : CON κv y M' b h' sh [.ref i, a1, a2, a3] σ oc) (he : sh[i]? = some (.inr (ci, fs))) (hcl : CL[ci]? = some q) (hq : q.1 = y.cls) (hh : Nat.ble (h' + 1) h = true) (hw : Nat.ble ((S.map fun v => v.category).sum) 8 = true) (kk : ∀ (r : Unit) (σ1 : xSt), XP κ b M h sh (pc + 3) L S σ1 (k r σ1)) : XP κ b M h sh pc L (a3 :: a2 :: a1 :: .ref i :: S) σ (bnd oc k) := x_callV (av := [a1, a2, a3]) hd hl hc he hcl hq hh rfl hw kk
theorem x_callV3l {y : MethodName} {M' : xM} {h' index : Nat} {i ci : Nat} {q : vw_C} {fs : List (Option Nat × Bool)} {a1 a2 a3 : Value} {oc : Option (Int64 × xSt)} {k : Int64 → xSt → Option (ρ × xSt)} (hd : decode M.2.1 pc = .ok (.invokevirtual index, 3)) (hl : x_VL M.1 index y M' 3) (hc : CON κl y M' b h' sh [.ref i, a1, a2, a3] σ oc) (he : sh[i]? = some (.inr (ci, fs))) (hcl : CL[ci]? = some q) (hq : q.1 = y.cls) (hh : Nat.ble (h' + 1) h = true) (hw : Nat.ble ((S.map fun v => v.category).sum) 8 = true) (kk : ∀ (r : Int64) (σ1 : xSt), XP κ b M h sh (pc + 3) L (.long r :: S) σ1 (k r σ1)) : XP κ b M h sh pc L (a3 :: a2 :: a1 :: .ref i :: S) σ (bnd oc k) := x_callV (av := [a1, a2, a3]) hd hl hc he hcl hq hh rfl hw kk
theorem x_callV3a {y : MethodName} {M' : xM} {h' index : Nat} {i ci : Nat} {q : vw_C} {fs : List (Option Nat × Bool)} {a1 a2 a3 : Value} {oc : Option (Nat × xSt)} {k : Nat → xSt → Option (ρ × xSt)} (hd : decode M.2.1 pc = .ok (.invokevirtual index, 3)) (hl : x_VL M.1 index y M' 3) (hc : CON κa y M' b h' sh [.ref i, a1, a2, a3] σ oc) (he : sh[i]? = some (.inr (ci, fs))) (hcl : CL[ci]? = some q) (hq : q.1 = y.cls) (hh : Nat.ble (h' + 1) h = true) (hw : Nat.ble ((S.map fun v => v.category).sum) 8 = true) (kk : ∀ (r : Nat) (σ1 : xSt), XP κ b M h sh (pc + 3) L (.ref r :: S) σ1 (k r σ1)) : XP κ b M h sh pc L (a3 :: a2 :: a1 :: .ref i :: S) σ (bnd oc k) := x_callV (av := [a1, a2, a3]) hd hl hc he hcl hq hh rfl hw kk
theorem x_callV4i {y : MethodName} {M' : xM} {h' index : Nat} {i ci : Nat} {q : vw_C} {fs : List (Option Nat × Bool)} {a1 a2 a3 a4 : Value} {oc : Option (Int32 × xSt)} {k : Int32 → xSt → Option (ρ × xSt)} (hd : decode M.2.1 pc = .ok (.invokevirtual index, 3)) (hl : x_VL M.1 index y M' 4) (hc : CON κi y M' b h' sh [.ref i, a1, a2, a3, a4] σ oc) (he : sh[i]? = some (.inr (ci, fs))) (hcl : CL[ci]? = some q) (hq : q.1 = y.cls) (hh : Nat.ble (h' + 1) h = true) (hw : Nat.ble ((S.map fun v => v.category).sum) 8 = true) (kk : ∀ (r : Int32) (σ1 : xSt), XP κ b M h sh (pc + 3) L (.int r :: S) σ1 (k r σ1)) : XP κ b M h sh pc L (a4 :: a3 :: a2 :: a1 :: .ref i :: S) σ (bnd oc k) := x_callV (av := [a1, a2, a3, a4]) hd hl hc he hcl hq hh rfl hw kk
theorem x_callV4v {y : MethodName} {M' : xM} {h' index : Nat} {i ci : Nat} {q : vw_C} {fs : List (Option Nat × Bool)} {a1 a2 a3 a4 : Value} {oc : Option (Unit × xSt)} {k : Unit → xSt → Option (ρ × xSt)} (hd : decode M.2.1 pc = .ok (.invokevirtual index, 3)) (hl : x_VL M.1 index y M' 4) (hc : CON κv y M' b h' sh [.ref i, a1, a2, a3, a4] σ oc) (he : sh[i]? = some (.inr (ci, fs))) (hcl : CL[ci]? = some q) (hq : q.1 = y.cls) (hh : Nat.ble (h' + 1) h = true) (hw : Nat.ble ((S.map fun v => v.category).sum) 8 = true) (kk : ∀ (r : Unit) (σ1 : xSt), XP κ b M h sh (pc + 3) L S σ1 (k r σ1)) : XP κ b M h sh pc L (a4 :: a3 :: a2 :: a1 :: .ref i :: S) σ (bnd oc k) := x_callV (av := [a1, a2, a3, a4]) hd hl hc he hcl hq hh rfl hw kk
theorem x_callV5i {y : MethodName} {M' : xM} {h' index : Nat} {i ci : Nat} {q : vw_C} {fs : List (Option Nat × Bool)} {a1 a2 a3 a4 a5 : Value} {oc : Option (Int32 × xSt)} {k : Int32 → xSt → Option (ρ × xSt)} (hd : decode M.2.1 pc = .ok (.invokevirtual index, 3)) (hl : x_VL M.1 index y M' 5) (hc : CON κi y M' b h' sh [.ref i, a1, a2, a3, a4, a5] σ oc) (he : sh[i]? = some (.inr (ci, fs))) (hcl : CL[ci]? = some q) (hq : q.1 = y.cls) (hh : Nat.ble (h' + 1) h = true) (hw : Nat.ble ((S.map fun v => v.category).sum) 8 = true) (kk : ∀ (r : Int32) (σ1 : xSt), XP κ b M h sh (pc + 3) L (.int r :: S) σ1 (k r σ1)) : XP κ b M h sh pc L (a5 :: a4 :: a3 :: a2 :: a1 :: .ref i :: S) σ (bnd oc k) := x_callV (av := [a1, a2, a3, a4, a5]) hd hl hc he hcl hq hh rfl hw kk
theorem x_callV5v {y : MethodName} {M' : xM} {h' index : Nat} {i ci : Nat} {q : vw_C} {fs : List (Option Nat × Bool)} {a1 a2 a3 a4 a5 : Value} {oc : Option (Unit × xSt)} {k : Unit → xSt → Option (ρ × xSt)} (hd : decode M.2.1 pc = .ok (.invokevirtual index, 3)) (hl : x_VL M.1 index y M' 5) (hc : CON κv y M' b h' sh [.ref i, a1, a2, a3, a4, a5] σ oc) (he : sh[i]? = some (.inr (ci, fs))) (hcl : CL[ci]? = some q) (hq : q.1 = y.cls) (hh : Nat.ble (h' + 1) h = true) (hw : Nat.ble ((S.map fun v => v.category).sum) 8 = true) (kk : ∀ (r : Unit) (σ1 : xSt), XP κ b M h sh (pc + 3) L S σ1 (k r σ1)) : XP κ b M h sh pc L (a5 :: a4 :: a3 :: a2 :: a1 :: .ref i :: S) σ (bnd oc k) := x_callV (av := [a1, a2, a3, a4, a5]) hd hl hc he hcl hq hh rfl hw kk
end XR
end
section
def FU : Nat := 1000000000000
def shC : xSh := [.inr (6, [(some 1, true), (some 3, true), (some 5, true), (some 14, true), (some 23, true), (some 25, true), (some 28, true), (none, false), (none, false), (none, false)]), .inr (4, [(some 2, true), (none, false)]), .inl 20, .inr (0, [(some 4, true), (none, false)]), .inl 16, .inr (3, [(some 6, true), (some 7, true), (some 8, true), (some 9, true), (some 10, true), (some 11, true), (some 12, true), (some 13, true), (none, false), (none, false)]), .inl 14, .inl 14, .inl 14, .inl 14, .inl 14, .inl 14, .inl 14, .inl 14, .inr (3, [(some 15, true), (some 16, true), (some 17, true), (some 18, true), (some 19, true), (some 20, true), (some 21, true), (some 22, true), (none, false), (none, false)]), .inl 14, .inl 14, .inl 14, .inl 14, .inl 14, .inl 14, .inl 14, .inl 14, .inr (2, [(some 24, true), (none, false)]), .inl 14, .inr (5, [(some 26, true), (some 27, true), (none, false), (none, false)]), .inl 8, .inl 8, .inr (1, [(some 29, true)]), .inl 14]
def shM : xSh := [.inr (7, [(none, false), (some 1, true), (none, false), (none, false), (none, false), (some 2, true), (some 3, true), (some 4, true), (some 5, true), (some 6, true), (some 7, true), (none, false), (some 8, true), (none, false), (none, false), (some 9, true), (none, false), (none, false), (some 10, true), (some 11, true), (none, true)]), .inl 16, .inl 14, .inl 14, .inl 14, .inl 14, .inl 14, .inl 14, .inl 14, .inl 20, .inl 15, .inl 14]
theorem hu_shM : ∀ (i2 ci2 : Nat) (g : List (Option Nat × Bool)) (j : Nat), shM[i2]? = some (.inr (ci2, g)) → g[j]? = some (none, true) → i2 = 0 ∧ j = 20 := by
  intro i2 ci2 g j h hj
  match i2, h with
  | 0, h =>
    cases h
    refine ⟨rfl, ?_⟩
    match j, hj with
    | 0, hj | 1, hj | 2, hj | 3, hj | 4, hj | 5, hj | 6, hj | 7, hj | 8, hj | 9, hj | 10, hj | 11, hj | 12, hj | 13, hj | 14, hj | 15, hj | 16, hj | 17, hj | 18, hj | 19, hj => cases hj
    | 20, _ => rfl
    | j + 21, hj => cases hj
  | 1, h | 2, h | 3, h | 4, h | 5, h | 6, h | 7, h | 8, h | 9, h | 10, h | 11, h => cases h
  | i + 12, h => cases h
def m_X7_within : xM := (RX7, cX7_within, 3, (some FieldType.boolean))
def m_X7_isBit : xM := (RX7, cX7_isBit, 2, (some FieldType.boolean))
def m_X7_size : xM := (RX7, cX7_size, 3, (some FieldType.int))
def m_X7_leastOf : xM := (RX7, cX7_leastOf, 2, (some FieldType.int))
def m_X7_letter : xM := (RX7, cX7_letter, 2, (some FieldType.int))
def m_X7_blank : xM := (RX7, cX7_blank, 2, (some FieldType.int))
def m_X7_isPin : xM := (RX7, cX7_isPin, 1, (some FieldType.boolean))
def m_X7_pinsFrom : xM := (RX7, cX7_pinsFrom, 4, (some FieldType.int))
def m_X7_readChannel : xM := (RX7, cX7_readChannel, 3, (some FieldType.int))
def m_X7_sayingAt : xM := (RX7, cX7_sayingAt, 2, (some FieldType.int))
def m_X7_isAs : xM := (RX7, cX7_isAs, 2, (some FieldType.boolean))
def m_X7_likeSaying : xM := (RX7, cX7_likeSaying, 3, (some FieldType.int))
def m_X7_readSaying : xM := (RX7, cX7_readSaying, 4, (some FieldType.int))
def m_X7_sayingNow : xM := (RX7, cX7_sayingNow, 2, (some FieldType.int))
def m_X7_fault : xM := (RX7, cX7_fault, 2, (some FieldType.int))
def m_X7_netBy : xM := (RX7, cX7_netBy, 1, (some FieldType.int))
def m_X7_top : xM := (RX7, cX7_top, 2, (some FieldType.int))
def m_X7_bottom : xM := (RX7, cX7_bottom, 2, (some FieldType.int))
def m_X7_hasPin : xM := (RX7, cX7_hasPin, 3, (some FieldType.boolean))
def m_X7_addSegment : xM := (RX7, cX7_addSegment, 4, none)
def m_X7_layNet : xM := (RX7, cX7_layNet, 6, none)
def m_X7_isWithin : xM := (RX7, cX7_isWithin, 3, (some FieldType.boolean))
def m_X7_touches : xM := (RX7, cX7_touches, 3, (some FieldType.boolean))
def m_X7_isAbove : xM := (RX7, cX7_isAbove, 6, (some FieldType.boolean))
def m_X7_laySegments : xM := (RX7, cX7_laySegments, 4, none)
def m_X7_isRing : xM := (RX7, cX7_isRing, 3, (some FieldType.boolean))
def m_X7_layBack : xM := (RX7, cX7_layBack, 6, (some FieldType.boolean))
def m_X7_findRing : xM := (RX7, cX7_findRing, 4, (some FieldType.boolean))
def m_X7_layRing : xM := (RX7, cX7_layRing, 2, none)
def m_X7_layNow : xM := (RX7, cX7_layNow, 1, none)
def m_X7_layNew : xM := (RX7, cX7_layNew, 2, none)
def m_X7_channel : xM := (RX7, cX7_channel, 2, (some FieldType.int))
def m_X7_isThere : xM := (RX7, cX7_isThere, 1, (some FieldType.boolean))
def m_X7_withTrack : xM := (RX7, cX7_withTrack, 3, (some FieldType.int))
def m_X7_clearNow : xM := (RX7, cX7_clearNow, 3, (some FieldType.int))
def m_X7_isMet : xM := (RX7, cX7_isMet, 3, (some FieldType.boolean))
def m_X7_mayCome : xM := (RX7, cX7_mayCome, 5, (some FieldType.boolean))
def m_X7_nextFor : xM := (RX7, cX7_nextFor, 5, (some FieldType.int))
def m_X7_depth : xM := (RX7, cX7_depth, 3, (some FieldType.int))
def m_X7_pack : xM := (RX7, cX7_pack, 3, (some FieldType.int))
def m_X7_isFine : xM := (RX7, cX7_isFine, 4, (some FieldType.boolean))
def m_X7_goesOn : xM := (RX7, cX7_goesOn, 4, (some FieldType.boolean))
def m_X7_findPlan : xM := (RX7, cX7_findPlan, 3, (some FieldType.boolean))
def m_X7_best : xM := (RX7, cX7_best, 2, (some FieldType.int))
def m_X7_clear : xM := (RX7, cX7_clear, 1, (some FieldType.int))
def m_X7_cut : xM := (RX7, cX7_cut, 3, (some FieldType.int))
def m_X7_isColumn : xM := (RX7, cX7_isColumn, 2, (some FieldType.boolean))
def m_X7_turn : xM := (RX7, cX7_turn, 3, (some FieldType.int))
def m_X7_saidNow : xM := (RX7, cX7_saidNow, 2, (some FieldType.int))
def m_X7_say : xM := (RX7, cX7_say, 3, (some FieldType.int))
def m_X7_fits : xM := (RX7, cX7_fits, 4, (some FieldType.boolean))
def m_X7_flat : xM := (RX7, cX7_flat, 5, (some FieldType.int))
def m_X7_upright : xM := (RX7, cX7_upright, 8, (some FieldType.int))
def m_X7_clashes : xM := (RX7, cX7_clashes, 4, (some FieldType.int))
def m_X7_inkLength : xM := (RX7, cX7_inkLength, 1, (some FieldType.int))
def m_X7_inkNow : xM := (RX7, cX7_inkNow, 4, (some FieldType.int))
def m_X7_ink : xM := (RX7, cX7_ink, 2, (some FieldType.int))
def m_X7_netsIn : xM := (RX7, cX7_netsIn, 4, (some FieldType.int))
def m_X7_density : xM := (RX7, cX7_density, 4, (some FieldType.int))
def m_X7_isZone : xM := (RX7, cX7_isZone, 7, (some FieldType.boolean))
def m_X7_zones : xM := (RX7, cX7_zones, 4, (some FieldType.int))
def m_X7_levelOf : xM := (RX7, cX7_levelOf, 6, (some FieldType.int))
def m_X7_level : xM := (RX7, cX7_level, 2, (some FieldType.int))
def m_X7_chain : xM := (RX7, cX7_chain, 4, (some FieldType.int))
def m_X7_breakBy : xM := (RX7, cX7_breakBy, 3, (some FieldType.int))
def m_X7_breakNow : xM := (RX7, cX7_breakNow, 3, (some FieldType.int))
def m_X7_aboutNow : xM := (RX7, cX7_aboutNow, 2, (some FieldType.int))
def m_X7_about : xM := (RX7, cX7_about, 2, (some FieldType.int))
def m_X7_pin : xM := (RX7, cX7_pin, 3, (some FieldType.int))
def m_X7_pinsOf : xM := (RX7, cX7_pinsOf, 4, (some FieldType.int))
def m_X7_isNetThere : xM := (RX7, cX7_isNetThere, 2, (some FieldType.boolean))
def m_X7_firstPin : xM := (RX7, cX7_firstPin, 3, (some FieldType.int))
def m_X7_lastPin : xM := (RX7, cX7_lastPin, 3, (some FieldType.int))
def m_X7_segmentsOf : xM := (RX7, cX7_segmentsOf, 4, (some FieldType.int))
def m_X7_netNow : xM := (RX7, cX7_netNow, 3, (some FieldType.int))
def m_X7_net : xM := (RX7, cX7_net, 3, (some FieldType.int))
def m_X7_isSegment : xM := (RX7, cX7_isSegment, 2, (some FieldType.boolean))
def m_X7_overIt : xM := (RX7, cX7_overIt, 4, (some FieldType.int))
def m_X7_segmentNow : xM := (RX7, cX7_segmentNow, 3, (some FieldType.int))
def m_X7_segment : xM := (RX7, cX7_segment, 3, (some FieldType.int))
def m_X7_above : xM := (RX7, cX7_above, 3, (some FieldType.int))
def m_X7_isFree : xM := (RX7, cX7_isFree, 3, (some FieldType.boolean))
def m_X7_may : xM := (RX7, cX7_may, 3, (some FieldType.int))
def m_X7_ring : xM := (RX7, cX7_ring, 2, (some FieldType.int))
def m_X7_zone : xM := (RX7, cX7_zone, 2, (some FieldType.int))
def m_X7_put : xM := (RX7, cX7_put, 5, (some FieldType.int))
def m_X7_set : xM := (RX7, cX7_set, 4, (some FieldType.int))
def m_X7_cell : xM := (RX7, cX7_cell, 4, (some FieldType.int))
def m_X7_netsThere : xM := (RX7, cX7_netsThere, 3, (some FieldType.int))
def m_X7_howMany : xM := (RX7, cX7_howMany, 2, (some FieldType.int))
def m_X7_count : xM := (RX7, cX7_count, 2, (some FieldType.int))
def m_X7_mix : xM := (RX7, cX7_mix, 3, none)
def m_X7_mixSegments : xM := (RX7, cX7_mixSegments, 3, none)
def m_X7_mixChannel : xM := (RX7, cX7_mixChannel, 4, none)
def m_X7_digest : xM := (RX7, cX7_digest, 2, (some FieldType.long))
def m_X0_netOf : xM := (RX0, cX0_netOf, 3, (some FieldType.int))
def m_X0_change : xM := (RX0, cX0_change, 4, none)
def m_X0_columnsWith : xM := (RX0, cX0_columnsWith, 4, (some FieldType.int))
def m_X0_pinsOf : xM := (RX0, cX0_pinsOf, 4, (some FieldType.int))
def m_X0_pinsOfNets : xM := (RX0, cX0_pinsOfNets, 1, (some FieldType.int))
def m_X0_nets : xM := (RX0, cX0_nets, 3, (some FieldType.int))
def m_J6_bitCount_0f7a4 : xM := (RJ6, cJ6_bitCount_0f7a4, 1, (some FieldType.int))
def m_X0_splittableNets : xM := (RX0, cX0_splittableNets, 3, (some FieldType.int))
def m_X1_takeAllAway : xM := (RX1, cX1_takeAllAway, 2, none)
def m_X1_placed : xM := (RX1, cX1_placed, 3, (some FieldType.int))
def m_X1_depth : xM := (RX1, cX1_depth, 3, (some FieldType.int))
def m_X3_overlap : xM := (RX3, cX3_overlap, 4, (some FieldType.boolean))
def m_X3_isAbove : xM := (RX3, cX3_isAbove, 3, (some FieldType.boolean))
def m_X1_fitsBefore : xM := (RX1, cX1_fitsBefore, 7, (some FieldType.boolean))
def m_X1_isValid : xM := (RX1, cX1_isValid, 3, (some FieldType.boolean))
def m_X3_covers : xM := (RX3, cX3_covers, 3, (some FieldType.boolean))
def m_X1_horizontalNets : xM := (RX1, cX1_horizontalNets, 6, (some FieldType.int))
def m_X3_isJoined : xM := (RX3, cX3_isJoined, 4, (some FieldType.boolean))
def m_X1_wireFromTop : xM := (RX1, cX1_wireFromTop, 6, (some FieldType.boolean))
def m_X1_wireFromBottom : xM := (RX1, cX1_wireFromBottom, 7, (some FieldType.boolean))
def m_X1_verticalNets : xM := (RX1, cX1_verticalNets, 8, (some FieldType.int))
def m_X1_conflicts : xM := (RX1, cX1_conflicts, 7, (some FieldType.int))
def m_X1_isFree : xM := (RX1, cX1_isFree, 7, (some FieldType.boolean))
def m_X1_leftmost : xM := (RX1, cX1_leftmost, 6, (some FieldType.int))
def m_X1_fillTrack : xM := (RX1, cX1_fillTrack, 5, none)
def m_X1_fillFromLeft : xM := (RX1, cX1_fillFromLeft, 3, none)
def m_X1_placeFrom : xM := (RX1, cX1_placeFrom, 5, (some FieldType.boolean))
def m_X1_fillBest : xM := (RX1, cX1_fillBest, 4, none)
def m_X3_hasCycle : xM := (RX3, cX3_hasCycle, 1, (some FieldType.boolean))
def m_X3_belowAny : xM := (RX3, cX3_belowAny, 4, (some FieldType.int))
def m_X3_steps : xM := (RX3, cX3_steps, 5, (some FieldType.int))
def m_X2_startOfShortest : xM := (RX2, cX2_startOfShortest, 5, (some FieldType.int))
def m_X2_next : xM := (RX2, cX2_next, 5, (some FieldType.int))
def m_X2_find : xM := (RX2, cX2_find, 5, none)
def m_X3_freeOf : xM := (RX3, cX3_freeOf, 5, (some FieldType.int))
def m_X3_giveRank : xM := (RX3, cX3_giveRank, 5, none)
def m_X3_rank : xM := (RX3, cX3_rank, 6, (some FieldType.int))
def m_X3_add : xM := (RX3, cX3_add, 5, none)
def m_X3_addPieces : xM := (RX3, cX3_addPieces, 5, none)
def m_X6_lowest : xM := (RX6, cX6_lowest, 2, (some FieldType.int))
def m_X6_highest : xM := (RX6, cX6_highest, 2, (some FieldType.int))
def m_X3_constrain : xM := (RX3, cX3_constrain, 7, none)
def m_X3_build : xM := (RX3, cX3_build, 5, none)
def m_X3_numberOf : xM := (RX3, cX3_numberOf, 4, (some FieldType.int))
def m_X4_append : xM := (RX4, cX4_append, 2, none)
def m_X4_lastCode : xM := (RX4, cX4_lastCode, 1, (some FieldType.int))
def m_X4_netAt : xM := (RX4, cX4_netAt, 2, (some FieldType.int))
def m_X4_isNetSign : xM := (RX4, cX4_isNetSign, 1, (some FieldType.boolean))
def m_X4_isPinSign : xM := (RX4, cX4_isPinSign, 1, (some FieldType.boolean))
def m_X4_fitsChannel : xM := (RX4, cX4_fitsChannel, 4, (some FieldType.boolean))
def m_X4_channelFault : xM := (RX4, cX4_channelFault, 3, (some FieldType.int))
def m_X4_columnsOfChannel : xM := (RX4, cX4_columnsOfChannel, 2, (some FieldType.int))
def m_X4_pattern : xM := (RX4, cX4_pattern, 1, (some (FieldType.object "java/lang/String")))
def m_X4_agrees : xM := (RX4, cX4_agrees, 2, (some FieldType.boolean))
def m_X4_agreement : xM := (RX4, cX4_agreement, 4, (some FieldType.int))
def m_X4_commandFault : xM := (RX4, cX4_commandFault, 3, (some FieldType.int))
def m_X4_command : xM := (RX4, cX4_command, 3, (some FieldType.int))
def m_X5_crossingSet : xM := (RX5, cX5_crossingSet, 4, (some FieldType.int))
def m_X5_isNewZone : xM := (RX5, cX5_isNewZone, 7, (some FieldType.boolean))
def m_X5_find : xM := (RX5, cX5_find, 4, none)
def m_X6_letter : xM := (RX6, cX6_letter, 2, (some FieldType.int))
def m_X6_blank : xM := (RX6, cX6_blank, 2, (some FieldType.int))
def m_X6_fault : xM := (RX6, cX6_fault, 2, (some FieldType.int))
def m_X6_derive : xM := (RX6, cX6_derive, 1, none)
def m_X6_channel : xM := (RX6, cX6_channel, 3, (some FieldType.int))
def m_X6_hasChannel : xM := (RX6, cX6_hasChannel, 1, (some FieldType.boolean))
def m_X6_pack : xM := (RX6, cX6_pack, 1, (some FieldType.int))
def m_X6_best : xM := (RX6, cX6_best, 1, (some FieldType.int))
def m_X6_clear : xM := (RX6, cX6_clear, 2, (some FieldType.int))
def m_X6_isNet : xM := (RX6, cX6_isNet, 1, (some FieldType.boolean))
def m_X6_isSplit : xM := (RX6, cX6_isSplit, 2, (some FieldType.boolean))
def m_X6_cut : xM := (RX6, cX6_cut, 3, (some FieldType.int))
def m_X6_isColumn : xM := (RX6, cX6_isColumn, 2, (some FieldType.boolean))
def m_X6_turn : xM := (RX6, cX6_turn, 4, (some FieldType.int))
def m_X6_isError : xM := (RX6, cX6_isError, 1, (some FieldType.boolean))
def m_X6_say : xM := (RX6, cX6_say, 4, (some FieldType.int))
def m_X6_inkOf : xM := (RX6, cX6_inkOf, 1, (some FieldType.int))
def m_X6_ink : xM := (RX6, cX6_ink, 6, (some FieldType.int))
def m_X6_breakingSet : xM := (RX6, cX6_breakingSet, 4, (some FieldType.int))
def m_X6_about : xM := (RX6, cX6_about, 2, (some FieldType.int))
def m_X6_isSide : xM := (RX6, cX6_isSide, 1, (some FieldType.boolean))
def m_X6_pin : xM := (RX6, cX6_pin, 3, (some FieldType.int))
def m_X6_net : xM := (RX6, cX6_net, 4, (some FieldType.int))
def m_X6_isSegment : xM := (RX6, cX6_isSegment, 2, (some FieldType.boolean))
def m_X6_segment : xM := (RX6, cX6_segment, 3, (some FieldType.int))
def m_X6_above : xM := (RX6, cX6_above, 3, (some FieldType.int))
def m_X6_may : xM := (RX6, cX6_may, 4, (some FieldType.int))
def m_X6_ring : xM := (RX6, cX6_ring, 2, (some FieldType.int))
def m_X6_zone : xM := (RX6, cX6_zone, 2, (some FieldType.int))
def m_X6_put : xM := (RX6, cX6_put, 5, (some FieldType.int))
def m_X6_set : xM := (RX6, cX6_set, 4, (some FieldType.int))
def m_X6_cell : xM := (RX6, cX6_cell, 4, (some FieldType.int))
def m_X6_count : xM := (RX6, cX6_count, 2, (some FieldType.int))
def m_X6_mix : xM := (RX6, cX6_mix, 3, (some FieldType.long))
def m_X6_digestChannel : xM := (RX6, cX6_digestChannel, 6, (some FieldType.long))
def m_X6_digestSegments : xM := (RX6, cX6_digestSegments, 7, (some FieldType.long))
def m_X6_digestPlan : xM := (RX6, cX6_digestPlan, 9, (some FieldType.long))
def m_X6_digest : xM := (RX6, cX6_digest, 4, (some FieldType.long))
theorem inw0 : ∀ w ∈ u_ws RX0 TX0 2, w ∈ xT := x_inw [139, 141] (by decide +kernel) (by decide +kernel)
theorem inw1 : ∀ w ∈ u_ws RX1 TX1 1, w ∈ xT := x_inw [246] (by decide +kernel) (by decide +kernel)
theorem inw2 : ∀ w ∈ u_ws RX2 TX2 2, w ∈ xT := x_inw [207, 209] (by decide +kernel) (by decide +kernel)
theorem inw3 : ∀ w ∈ u_ws RX3 TX3 10, w ∈ xT := x_inw [176, 178, 180, 182, 184, 186, 188, 190, 192, 194] (by decide +kernel) (by decide +kernel)
theorem inw4 : ∀ w ∈ u_ws RX4 TX4 2, w ∈ xT := x_inw [122, 124] (by decide +kernel) (by decide +kernel)
theorem inw5 : ∀ w ∈ u_ws RX5 TX5 4, w ∈ xT := x_inw [225, 227, 229, 231] (by decide +kernel) (by decide +kernel)
theorem inw6 : ∀ w ∈ u_ws RX6 TX6 10, w ∈ xT := x_inw [259, 261, 263, 265, 267, 269, 271, 273, 275, 277] (by decide +kernel) (by decide +kernel)
theorem inw7 : ∀ w ∈ u_ws RX7 TX7 21, w ∈ xT := x_inw [785, 787, 789, 791, 793, 795, 797, 799, 801, 803, 805, 807, 809, 811, 813, 815, 817, 819, 821, 823, 825] (by decide +kernel) (by decide +kernel)
theorem lk_RX6_10 : x_FL RX6 10 6 0 := ⟨_, _, _, rfl, inw6, by decide, (xT_of 249 (by decide +kernel) (by decide +kernel))⟩
theorem lk_RX6_19 : x_FL RX6 19 6 1 := ⟨_, _, _, rfl, inw6, by decide, (xT_of 250 (by decide +kernel) (by decide +kernel))⟩
theorem lk_RX6_26 : x_FL RX6 26 6 2 := ⟨_, _, _, rfl, inw6, by decide, (xT_of 251 (by decide +kernel) (by decide +kernel))⟩
theorem lk_RX6_30 : x_FL RX6 30 6 3 := ⟨_, _, _, rfl, inw6, by decide, (xT_of 252 (by decide +kernel) (by decide +kernel))⟩
theorem lk_RX6_36 : x_FL RX6 36 6 4 := ⟨_, _, _, rfl, inw6, by decide, (xT_of 253 (by decide +kernel) (by decide +kernel))⟩
theorem lk_RX6_43 : x_FL RX6 43 6 5 := ⟨_, _, _, rfl, inw6, by decide, (xT_of 254 (by decide +kernel) (by decide +kernel))⟩
theorem lk_RX6_50 : x_FL RX6 50 6 6 := ⟨_, _, _, rfl, inw6, by decide, (xT_of 255 (by decide +kernel) (by decide +kernel))⟩
theorem lk_RX6_54 : x_FL RX6 54 4 1 := ⟨_, _, _, rfl, inw4, by decide, (xT_of 121 (by decide +kernel) (by decide +kernel))⟩
theorem lk_RX6_72 : x_FL RX6 72 0 1 := ⟨_, _, _, rfl, inw0, by decide, (xT_of 137 (by decide +kernel) (by decide +kernel))⟩
theorem lk_RX6_83 : x_FL RX6 83 6 7 := ⟨_, _, _, rfl, inw6, by decide, (xT_of 256 (by decide +kernel) (by decide +kernel))⟩
theorem lk_RX6_89 : x_FL RX6 89 6 8 := ⟨_, _, _, rfl, inw6, by decide, (xT_of 257 (by decide +kernel) (by decide +kernel))⟩
theorem lk_RX6_132 : x_FL RX6 132 3 8 := ⟨_, _, _, rfl, inw3, by decide, (xT_of 173 (by decide +kernel) (by decide +kernel))⟩
theorem lk_RX6_135 : x_FL RX6 135 5 3 := ⟨_, _, _, rfl, inw5, by decide, (xT_of 224 (by decide +kernel) (by decide +kernel))⟩
theorem lk_RX6_138 : x_FL RX6 138 3 9 := ⟨_, _, _, rfl, inw3, by decide, (xT_of 175 (by decide +kernel) (by decide +kernel))⟩
theorem lk_RX6_141 : x_FL RX6 141 2 1 := ⟨_, _, _, rfl, inw2, by decide, (xT_of 206 (by decide +kernel) (by decide +kernel))⟩
theorem lk_RX6_145 : x_FL RX6 145 5 2 := ⟨_, _, _, rfl, inw5, by decide, (xT_of 222 (by decide +kernel) (by decide +kernel))⟩
theorem lk_RX6_188 : x_FL RX6 188 3 0 := ⟨_, _, _, rfl, inw3, by decide, (xT_of 153 (by decide +kernel) (by decide +kernel))⟩
theorem lk_RX6_192 : x_FL RX6 192 3 1 := ⟨_, _, _, rfl, inw3, by decide, (xT_of 155 (by decide +kernel) (by decide +kernel))⟩
theorem lk_RX6_195 : x_FL RX6 195 3 2 := ⟨_, _, _, rfl, inw3, by decide, (xT_of 158 (by decide +kernel) (by decide +kernel))⟩
theorem lk_RX6_198 : x_FL RX6 198 1 0 := ⟨_, _, _, rfl, inw1, by decide, (xT_of 245 (by decide +kernel) (by decide +kernel))⟩
theorem lk_RX6_201 : x_FL RX6 201 3 3 := ⟨_, _, _, rfl, inw3, by decide, (xT_of 160 (by decide +kernel) (by decide +kernel))⟩
theorem lk_RX6_209 : x_FL RX6 209 3 4 := ⟨_, _, _, rfl, inw3, by decide, (xT_of 162 (by decide +kernel) (by decide +kernel))⟩
theorem lk_RX6_212 : x_FL RX6 212 3 5 := ⟨_, _, _, rfl, inw3, by decide, (xT_of 164 (by decide +kernel) (by decide +kernel))⟩
theorem lk_RX6_225 : x_FL RX6 225 2 0 := ⟨_, _, _, rfl, inw2, by decide, (xT_of 204 (by decide +kernel) (by decide +kernel))⟩
theorem lk_RX6_228 : x_FL RX6 228 5 1 := ⟨_, _, _, rfl, inw5, by decide, (xT_of 220 (by decide +kernel) (by decide +kernel))⟩
theorem lk_RX6_244 : x_FL RX6 244 6 9 := ⟨_, _, _, rfl, inw6, by decide, (xT_of 258 (by decide +kernel) (by decide +kernel))⟩
theorem lk_RX6_277 : x_FL RX6 277 4 0 := ⟨_, _, _, rfl, inw4, by decide, (xT_of 119 (by decide +kernel) (by decide +kernel))⟩
theorem lk_RX0_9 : x_FL RX0 9 0 0 := ⟨_, _, _, rfl, inw0, by decide, (xT_of 134 (by decide +kernel) (by decide +kernel))⟩
theorem lk_RX0_15 : x_FL RX0 15 0 1 := ⟨_, _, _, rfl, inw0, by decide, (xT_of 136 (by decide +kernel) (by decide +kernel))⟩
theorem lk_RX1_9 : x_FL RX1 9 1 0 := ⟨_, _, _, rfl, inw1, by decide, (xT_of 244 (by decide +kernel) (by decide +kernel))⟩
theorem lk_RX1_24 : x_FL RX1 24 3 8 := ⟨_, _, _, rfl, inw3, by decide, (xT_of 172 (by decide +kernel) (by decide +kernel))⟩
theorem lk_RX1_44 : x_FL RX1 44 3 0 := ⟨_, _, _, rfl, inw3, by decide, (xT_of 152 (by decide +kernel) (by decide +kernel))⟩
theorem lk_RX1_67 : x_FL RX1 67 0 1 := ⟨_, _, _, rfl, inw0, by decide, (xT_of 138 (by decide +kernel) (by decide +kernel))⟩
theorem lk_RX1_92 : x_FL RX1 92 3 1 := ⟨_, _, _, rfl, inw3, by decide, (xT_of 156 (by decide +kernel) (by decide +kernel))⟩
theorem lk_RX1_102 : x_FL RX1 102 3 5 := ⟨_, _, _, rfl, inw3, by decide, (xT_of 165 (by decide +kernel) (by decide +kernel))⟩
theorem lk_RX1_105 : x_FL RX1 105 3 6 := ⟨_, _, _, rfl, inw3, by decide, (xT_of 167 (by decide +kernel) (by decide +kernel))⟩
theorem lk_RX2_9 : x_FL RX2 9 2 0 := ⟨_, _, _, rfl, inw2, by decide, (xT_of 203 (by decide +kernel) (by decide +kernel))⟩
theorem lk_RX2_15 : x_FL RX2 15 2 1 := ⟨_, _, _, rfl, inw2, by decide, (xT_of 205 (by decide +kernel) (by decide +kernel))⟩
theorem lk_RX2_37 : x_FL RX2 37 3 8 := ⟨_, _, _, rfl, inw3, by decide, (xT_of 171 (by decide +kernel) (by decide +kernel))⟩
theorem lk_RX3_9 : x_FL RX3 9 3 0 := ⟨_, _, _, rfl, inw3, by decide, (xT_of 150 (by decide +kernel) (by decide +kernel))⟩
theorem lk_RX3_15 : x_FL RX3 15 3 1 := ⟨_, _, _, rfl, inw3, by decide, (xT_of 154 (by decide +kernel) (by decide +kernel))⟩
theorem lk_RX3_18 : x_FL RX3 18 3 2 := ⟨_, _, _, rfl, inw3, by decide, (xT_of 157 (by decide +kernel) (by decide +kernel))⟩
theorem lk_RX3_21 : x_FL RX3 21 3 3 := ⟨_, _, _, rfl, inw3, by decide, (xT_of 159 (by decide +kernel) (by decide +kernel))⟩
theorem lk_RX3_24 : x_FL RX3 24 3 4 := ⟨_, _, _, rfl, inw3, by decide, (xT_of 161 (by decide +kernel) (by decide +kernel))⟩
theorem lk_RX3_27 : x_FL RX3 27 3 5 := ⟨_, _, _, rfl, inw3, by decide, (xT_of 163 (by decide +kernel) (by decide +kernel))⟩
theorem lk_RX3_30 : x_FL RX3 30 3 6 := ⟨_, _, _, rfl, inw3, by decide, (xT_of 166 (by decide +kernel) (by decide +kernel))⟩
theorem lk_RX3_33 : x_FL RX3 33 3 7 := ⟨_, _, _, rfl, inw3, by decide, (xT_of 168 (by decide +kernel) (by decide +kernel))⟩
theorem lk_RX3_36 : x_FL RX3 36 3 8 := ⟨_, _, _, rfl, inw3, by decide, (xT_of 169 (by decide +kernel) (by decide +kernel))⟩
theorem lk_RX3_65 : x_FL RX3 65 0 1 := ⟨_, _, _, rfl, inw0, by decide, (xT_of 135 (by decide +kernel) (by decide +kernel))⟩
theorem lk_RX3_80 : x_FL RX3 80 3 9 := ⟨_, _, _, rfl, inw3, by decide, (xT_of 174 (by decide +kernel) (by decide +kernel))⟩
theorem lk_RX4_9 : x_FL RX4 9 4 0 := ⟨_, _, _, rfl, inw4, by decide, (xT_of 118 (by decide +kernel) (by decide +kernel))⟩
theorem lk_RX4_15 : x_FL RX4 15 4 1 := ⟨_, _, _, rfl, inw4, by decide, (xT_of 120 (by decide +kernel) (by decide +kernel))⟩
theorem lk_RX5_9 : x_FL RX5 9 5 0 := ⟨_, _, _, rfl, inw5, by decide, (xT_of 218 (by decide +kernel) (by decide +kernel))⟩
theorem lk_RX5_15 : x_FL RX5 15 5 1 := ⟨_, _, _, rfl, inw5, by decide, (xT_of 219 (by decide +kernel) (by decide +kernel))⟩
theorem lk_RX5_18 : x_FL RX5 18 5 3 := ⟨_, _, _, rfl, inw5, by decide, (xT_of 223 (by decide +kernel) (by decide +kernel))⟩
theorem lk_RX5_38 : x_FL RX5 38 5 2 := ⟨_, _, _, rfl, inw5, by decide, (xT_of 221 (by decide +kernel) (by decide +kernel))⟩
theorem lk_RX5_45 : x_FL RX5 45 3 8 := ⟨_, _, _, rfl, inw3, by decide, (xT_of 170 (by decide +kernel) (by decide +kernel))⟩
theorem lk_RX5_51 : x_FL RX5 51 3 0 := ⟨_, _, _, rfl, inw3, by decide, (xT_of 151 (by decide +kernel) (by decide +kernel))⟩
theorem lk_RX7_7 : x_FL RX7 7 7 1 := ⟨_, _, _, rfl, inw7, by decide, (xT_of 765 (by decide +kernel) (by decide +kernel))⟩
theorem lk_RX7_13 : x_FL RX7 13 7 5 := ⟨_, _, _, rfl, inw7, by decide, (xT_of 769 (by decide +kernel) (by decide +kernel))⟩
theorem lk_RX7_16 : x_FL RX7 16 7 6 := ⟨_, _, _, rfl, inw7, by decide, (xT_of 770 (by decide +kernel) (by decide +kernel))⟩
theorem lk_RX7_19 : x_FL RX7 19 7 7 := ⟨_, _, _, rfl, inw7, by decide, (xT_of 771 (by decide +kernel) (by decide +kernel))⟩
theorem lk_RX7_22 : x_FL RX7 22 7 8 := ⟨_, _, _, rfl, inw7, by decide, (xT_of 772 (by decide +kernel) (by decide +kernel))⟩
theorem lk_RX7_25 : x_FL RX7 25 7 9 := ⟨_, _, _, rfl, inw7, by decide, (xT_of 773 (by decide +kernel) (by decide +kernel))⟩
theorem lk_RX7_28 : x_FL RX7 28 7 10 := ⟨_, _, _, rfl, inw7, by decide, (xT_of 774 (by decide +kernel) (by decide +kernel))⟩
theorem lk_RX7_31 : x_FL RX7 31 7 12 := ⟨_, _, _, rfl, inw7, by decide, (xT_of 776 (by decide +kernel) (by decide +kernel))⟩
theorem lk_RX7_34 : x_FL RX7 34 7 15 := ⟨_, _, _, rfl, inw7, by decide, (xT_of 779 (by decide +kernel) (by decide +kernel))⟩
theorem lk_RX7_37 : x_FL RX7 37 7 18 := ⟨_, _, _, rfl, inw7, by decide, (xT_of 782 (by decide +kernel) (by decide +kernel))⟩
theorem lk_RX7_40 : x_FL RX7 40 7 19 := ⟨_, _, _, rfl, inw7, by decide, (xT_of 783 (by decide +kernel) (by decide +kernel))⟩
theorem lk_RX7_51 : x_FL RX7 51 7 14 := ⟨_, _, _, rfl, inw7, by decide, (xT_of 778 (by decide +kernel) (by decide +kernel))⟩
theorem lk_RX7_59 : x_FL RX7 59 7 17 := ⟨_, _, _, rfl, inw7, by decide, (xT_of 781 (by decide +kernel) (by decide +kernel))⟩
theorem lk_RX7_67 : x_FL RX7 67 7 16 := ⟨_, _, _, rfl, inw7, by decide, (xT_of 780 (by decide +kernel) (by decide +kernel))⟩
theorem lk_RX7_87 : x_FL RX7 87 7 0 := ⟨_, _, _, rfl, inw7, by decide, (xT_of 764 (by decide +kernel) (by decide +kernel))⟩
theorem lk_RX7_93 : x_FL RX7 93 7 2 := ⟨_, _, _, rfl, inw7, by decide, (xT_of 766 (by decide +kernel) (by decide +kernel))⟩
theorem lk_RX7_96 : x_FL RX7 96 7 3 := ⟨_, _, _, rfl, inw7, by decide, (xT_of 767 (by decide +kernel) (by decide +kernel))⟩
theorem lk_RX7_130 : x_FL RX7 130 7 4 := ⟨_, _, _, rfl, inw7, by decide, (xT_of 768 (by decide +kernel) (by decide +kernel))⟩
theorem lk_RX7_156 : x_FL RX7 156 7 11 := ⟨_, _, _, rfl, inw7, by decide, (xT_of 775 (by decide +kernel) (by decide +kernel))⟩
theorem lk_RX7_290 : x_FL RX7 290 7 13 := ⟨_, _, _, rfl, inw7, by decide, (xT_of 777 (by decide +kernel) (by decide +kernel))⟩
theorem lk_RX7_304 : x_FL RX7 304 7 20 := ⟨_, _, _, rfl, inw7, by decide, (xT_of 784 (by decide +kernel) (by decide +kernel))⟩
theorem lp_RX6_54 : x_FP RX6 54 4 1 .int := ⟨_, _, _, tyX4, rfl, inw4, by decide, (xT_of 121 (by decide +kernel) (by decide +kernel)), tyX4_ok, nmX4, rfl, by decide +kernel⟩
theorem lp_RX6_72 : x_FP RX6 72 0 1 .int := ⟨_, _, _, tyX0, rfl, inw0, by decide, (xT_of 137 (by decide +kernel) (by decide +kernel)), tyX0_ok, nmX0, rfl, by decide +kernel⟩
theorem lp_RX6_83 : x_FP RX6 83 6 7 .int := ⟨_, _, _, tyX6, rfl, inw6, by decide, (xT_of 256 (by decide +kernel) (by decide +kernel)), tyX6_ok, nmX6, rfl, by decide +kernel⟩
theorem lp_RX6_89 : x_FP RX6 89 6 8 .int := ⟨_, _, _, tyX6, rfl, inw6, by decide, (xT_of 257 (by decide +kernel) (by decide +kernel)), tyX6_ok, nmX6, rfl, by decide +kernel⟩
theorem lp_RX6_244 : x_FP RX6 244 6 9 .int := ⟨_, _, _, tyX6, rfl, inw6, by decide, (xT_of 258 (by decide +kernel) (by decide +kernel)), tyX6_ok, nmX6, rfl, by decide +kernel⟩
theorem lp_RX2_15 : x_FP RX2 15 2 1 .int := ⟨_, _, _, tyX2, rfl, inw2, by decide, (xT_of 205 (by decide +kernel) (by decide +kernel)), tyX2_ok, nmX2, rfl, by decide +kernel⟩
theorem lp_RX3_36 : x_FP RX3 36 3 8 .int := ⟨_, _, _, tyX3, rfl, inw3, by decide, (xT_of 169 (by decide +kernel) (by decide +kernel)), tyX3_ok, nmX3, rfl, by decide +kernel⟩
theorem lp_RX3_80 : x_FP RX3 80 3 9 .int := ⟨_, _, _, tyX3, rfl, inw3, by decide, (xT_of 174 (by decide +kernel) (by decide +kernel)), tyX3_ok, nmX3, rfl, by decide +kernel⟩
theorem lp_RX4_15 : x_FP RX4 15 4 1 .int := ⟨_, _, _, tyX4, rfl, inw4, by decide, (xT_of 120 (by decide +kernel) (by decide +kernel)), tyX4_ok, nmX4, rfl, by decide +kernel⟩
theorem lp_RX5_18 : x_FP RX5 18 5 3 .int := ⟨_, _, _, tyX5, rfl, inw5, by decide, (xT_of 223 (by decide +kernel) (by decide +kernel)), tyX5_ok, nmX5, rfl, by decide +kernel⟩
theorem lp_RX5_38 : x_FP RX5 38 5 2 .int := ⟨_, _, _, tyX5, rfl, inw5, by decide, (xT_of 221 (by decide +kernel) (by decide +kernel)), tyX5_ok, nmX5, rfl, by decide +kernel⟩
theorem lp_RX7_51 : x_FP RX7 51 7 14 .int := ⟨_, _, _, tyX7, rfl, inw7, by decide, (xT_of 778 (by decide +kernel) (by decide +kernel)), tyX7_ok, nmX7, rfl, by decide +kernel⟩
theorem lp_RX7_59 : x_FP RX7 59 7 17 .boolean := ⟨_, _, _, tyX7, rfl, inw7, by decide, (xT_of 781 (by decide +kernel) (by decide +kernel)), tyX7_ok, nmX7, rfl, by decide +kernel⟩
theorem lp_RX7_67 : x_FP RX7 67 7 16 .int := ⟨_, _, _, tyX7, rfl, inw7, by decide, (xT_of 780 (by decide +kernel) (by decide +kernel)), tyX7_ok, nmX7, rfl, by decide +kernel⟩
theorem lp_RX7_87 : x_FP RX7 87 7 0 .int := ⟨_, _, _, tyX7, rfl, inw7, by decide, (xT_of 764 (by decide +kernel) (by decide +kernel)), tyX7_ok, nmX7, rfl, by decide +kernel⟩
theorem lp_RX7_93 : x_FP RX7 93 7 2 .int := ⟨_, _, _, tyX7, rfl, inw7, by decide, (xT_of 766 (by decide +kernel) (by decide +kernel)), tyX7_ok, nmX7, rfl, by decide +kernel⟩
theorem lp_RX7_96 : x_FP RX7 96 7 3 .int := ⟨_, _, _, tyX7, rfl, inw7, by decide, (xT_of 767 (by decide +kernel) (by decide +kernel)), tyX7_ok, nmX7, rfl, by decide +kernel⟩
theorem lp_RX7_130 : x_FP RX7 130 7 4 .int := ⟨_, _, _, tyX7, rfl, inw7, by decide, (xT_of 768 (by decide +kernel) (by decide +kernel)), tyX7_ok, nmX7, rfl, by decide +kernel⟩
theorem lp_RX7_156 : x_FP RX7 156 7 11 .int := ⟨_, _, _, tyX7, rfl, inw7, by decide, (xT_of 775 (by decide +kernel) (by decide +kernel)), tyX7_ok, nmX7, rfl, by decide +kernel⟩
theorem lp_RX7_290 : x_FP RX7 290 7 13 .int := ⟨_, _, _, tyX7, rfl, inw7, by decide, (xT_of 777 (by decide +kernel) (by decide +kernel)), tyX7_ok, nmX7, rfl, by decide +kernel⟩
theorem lp_RX7_304 : x_FP RX7 304 7 20 .long := ⟨_, _, _, tyX7, rfl, inw7, by decide, (xT_of 784 (by decide +kernel) (by decide +kernel)), tyX7_ok, nmX7, rfl, by decide +kernel⟩
theorem lc_RX6_58 : x_VL RX6 58 yX4_append m_X4_append 1 := ⟨⟨(xT_of 284 (by decide +kernel) (by decide +kernel)), (xT_of 285 (by decide +kernel) (by decide +kernel)), (xT_of 286 (by decide +kernel) (by decide +kernel)), (xT_of 91 (by decide +kernel) (by decide +kernel)), (xT_of 287 (by decide +kernel) (by decide +kernel))⟩, ⟨by decide +kernel, by decide +kernel, by decide +kernel⟩, by decide⟩
theorem lc_RX6_62 : x_VL RX6 62 yX4_channelFault m_X4_channelFault 0 := ⟨⟨(xT_of 296 (by decide +kernel) (by decide +kernel)), (xT_of 297 (by decide +kernel) (by decide +kernel)), (xT_of 298 (by decide +kernel) (by decide +kernel)), (xT_of 91 (by decide +kernel) (by decide +kernel)), (xT_of 299 (by decide +kernel) (by decide +kernel))⟩, ⟨by decide +kernel, by decide +kernel, by decide +kernel⟩, by decide⟩
theorem lc_RX6_66 : x_VL RX6 66 yX4_commandFault m_X4_commandFault 0 := ⟨⟨(xT_of 310 (by decide +kernel) (by decide +kernel)), (xT_of 311 (by decide +kernel) (by decide +kernel)), (xT_of 312 (by decide +kernel) (by decide +kernel)), (xT_of 91 (by decide +kernel) (by decide +kernel)), (xT_of 313 (by decide +kernel) (by decide +kernel))⟩, ⟨by decide +kernel, by decide +kernel, by decide +kernel⟩, by decide⟩
theorem lc_RX6_69 : x_VL RX6 69 yX4_columnsOfChannel m_X4_columnsOfChannel 0 := ⟨⟨(xT_of 389 (by decide +kernel) (by decide +kernel)), (xT_of 390 (by decide +kernel) (by decide +kernel)), (xT_of 391 (by decide +kernel) (by decide +kernel)), (xT_of 91 (by decide +kernel) (by decide +kernel)), (xT_of 392 (by decide +kernel) (by decide +kernel))⟩, ⟨by decide +kernel, by decide +kernel, by decide +kernel⟩, by decide⟩
theorem lc_RX6_75 : x_VL RX6 75 yX4_netAt m_X4_netAt 1 := ⟨⟨(xT_of 394 (by decide +kernel) (by decide +kernel)), (xT_of 395 (by decide +kernel) (by decide +kernel)), (xT_of 396 (by decide +kernel) (by decide +kernel)), (xT_of 91 (by decide +kernel) (by decide +kernel)), (xT_of 397 (by decide +kernel) (by decide +kernel))⟩, ⟨by decide +kernel, by decide +kernel, by decide +kernel⟩, by decide⟩
theorem lc_RX6_79 : x_VL RX6 79 yX0_change m_X0_change 3 := ⟨⟨(xT_of 398 (by decide +kernel) (by decide +kernel)), (xT_of 399 (by decide +kernel) (by decide +kernel)), (xT_of 400 (by decide +kernel) (by decide +kernel)), (xT_of 92 (by decide +kernel) (by decide +kernel)), (xT_of 401 (by decide +kernel) (by decide +kernel))⟩, ⟨by decide +kernel, by decide +kernel, by decide +kernel⟩, by decide⟩
theorem lc_RX6_86 : x_VL RX6 86 yX6_derive m_X6_derive 0 := ⟨⟨(xT_of 402 (by decide +kernel) (by decide +kernel)), (xT_of 404 (by decide +kernel) (by decide +kernel)), (xT_of 2 (by decide +kernel) (by decide +kernel)), (xT_of 90 (by decide +kernel) (by decide +kernel)), (xT_of 405 (by decide +kernel) (by decide +kernel))⟩, ⟨by decide +kernel, by decide +kernel, by decide +kernel⟩, by decide⟩
theorem lc_RX6_92 : x_VL RX6 92 yX4_command m_X4_command 0 := ⟨⟨(xT_of 507 (by decide +kernel) (by decide +kernel)), (xT_of 508 (by decide +kernel) (by decide +kernel)), (xT_of 509 (by decide +kernel) (by decide +kernel)), (xT_of 91 (by decide +kernel) (by decide +kernel)), (xT_of 510 (by decide +kernel) (by decide +kernel))⟩, ⟨by decide +kernel, by decide +kernel, by decide +kernel⟩, by decide⟩
theorem lc_RX6_95 : x_VL RX6 95 yX4_lastCode m_X4_lastCode 0 := ⟨⟨(xT_of 511 (by decide +kernel) (by decide +kernel)), (xT_of 512 (by decide +kernel) (by decide +kernel)), (xT_of 513 (by decide +kernel) (by decide +kernel)), (xT_of 91 (by decide +kernel) (by decide +kernel)), (xT_of 514 (by decide +kernel) (by decide +kernel))⟩, ⟨by decide +kernel, by decide +kernel, by decide +kernel⟩, by decide⟩
theorem lc_RX6_98 : x_VL RX6 98 yX6_pack m_X6_pack 0 := ⟨⟨(xT_of 515 (by decide +kernel) (by decide +kernel)), (xT_of 516 (by decide +kernel) (by decide +kernel)), (xT_of 517 (by decide +kernel) (by decide +kernel)), (xT_of 90 (by decide +kernel) (by decide +kernel)), (xT_of 518 (by decide +kernel) (by decide +kernel))⟩, ⟨by decide +kernel, by decide +kernel, by decide +kernel⟩, by decide⟩
theorem lc_RX6_101 : x_VL RX6 101 yX6_best m_X6_best 0 := ⟨⟨(xT_of 550 (by decide +kernel) (by decide +kernel)), (xT_of 551 (by decide +kernel) (by decide +kernel)), (xT_of 552 (by decide +kernel) (by decide +kernel)), (xT_of 90 (by decide +kernel) (by decide +kernel)), (xT_of 553 (by decide +kernel) (by decide +kernel))⟩, ⟨by decide +kernel, by decide +kernel, by decide +kernel⟩, by decide⟩
theorem lc_RX6_104 : x_VL RX6 104 yX6_clear m_X6_clear 0 := ⟨⟨(xT_of 567 (by decide +kernel) (by decide +kernel)), (xT_of 568 (by decide +kernel) (by decide +kernel)), (xT_of 569 (by decide +kernel) (by decide +kernel)), (xT_of 90 (by decide +kernel) (by decide +kernel)), (xT_of 570 (by decide +kernel) (by decide +kernel))⟩, ⟨by decide +kernel, by decide +kernel, by decide +kernel⟩, by decide⟩
theorem lc_RX6_107 : x_VL RX6 107 yX6_cut m_X6_cut 2 := ⟨⟨(xT_of 575 (by decide +kernel) (by decide +kernel)), (xT_of 576 (by decide +kernel) (by decide +kernel)), (xT_of 577 (by decide +kernel) (by decide +kernel)), (xT_of 90 (by decide +kernel) (by decide +kernel)), (xT_of 578 (by decide +kernel) (by decide +kernel))⟩, ⟨by decide +kernel, by decide +kernel, by decide +kernel⟩, by decide⟩
theorem lc_RX6_111 : x_VL RX6 111 yX6_turn m_X6_turn 1 := ⟨⟨(xT_of 586 (by decide +kernel) (by decide +kernel)), (xT_of 587 (by decide +kernel) (by decide +kernel)), (xT_of 588 (by decide +kernel) (by decide +kernel)), (xT_of 90 (by decide +kernel) (by decide +kernel)), (xT_of 589 (by decide +kernel) (by decide +kernel))⟩, ⟨by decide +kernel, by decide +kernel, by decide +kernel⟩, by decide⟩
theorem lc_RX6_114 : x_SL RX6 114 yX6_isError m_X6_isError 1 := ⟨⟨(xT_of 595 (by decide +kernel) (by decide +kernel)), (xT_of 596 (by decide +kernel) (by decide +kernel)), (xT_of 90 (by decide +kernel) (by decide +kernel)), (xT_of 597 (by decide +kernel) (by decide +kernel))⟩, ⟨by decide +kernel, by decide +kernel, by decide +kernel⟩, by decide⟩
theorem lc_RX6_118 : x_VL RX6 118 yX6_hasChannel m_X6_hasChannel 0 := ⟨⟨(xT_of 519 (by decide +kernel) (by decide +kernel)), (xT_of 521 (by decide +kernel) (by decide +kernel)), (xT_of 11 (by decide +kernel) (by decide +kernel)), (xT_of 90 (by decide +kernel) (by decide +kernel)), (xT_of 522 (by decide +kernel) (by decide +kernel))⟩, ⟨by decide +kernel, by decide +kernel, by decide +kernel⟩, by decide⟩
theorem lc_RX6_122 : x_VL RX6 122 yX1_depth m_X1_depth 0 := ⟨⟨(xT_of 545 (by decide +kernel) (by decide +kernel)), (xT_of 546 (by decide +kernel) (by decide +kernel)), (xT_of 547 (by decide +kernel) (by decide +kernel)), (xT_of 96 (by decide +kernel) (by decide +kernel)), (xT_of 548 (by decide +kernel) (by decide +kernel))⟩, ⟨by decide +kernel, by decide +kernel, by decide +kernel⟩, by decide⟩
theorem lc_RX6_125 : x_VL RX6 125 yX1_horizontalNets m_X1_horizontalNets 3 := ⟨⟨(xT_of 602 (by decide +kernel) (by decide +kernel)), (xT_of 603 (by decide +kernel) (by decide +kernel)), (xT_of 604 (by decide +kernel) (by decide +kernel)), (xT_of 96 (by decide +kernel) (by decide +kernel)), (xT_of 605 (by decide +kernel) (by decide +kernel))⟩, ⟨by decide +kernel, by decide +kernel, by decide +kernel⟩, by decide⟩
theorem lc_RX6_129 : x_SL RX6 129 yX6_inkOf m_X6_inkOf 1 := ⟨⟨(xT_of 607 (by decide +kernel) (by decide +kernel)), (xT_of 608 (by decide +kernel) (by decide +kernel)), (xT_of 90 (by decide +kernel) (by decide +kernel)), (xT_of 609 (by decide +kernel) (by decide +kernel))⟩, ⟨by decide +kernel, by decide +kernel, by decide +kernel⟩, by decide⟩
theorem lc_RX6_142 : x_VL RX6 142 yX6_breakingSet m_X6_breakingSet 0 := ⟨⟨(xT_of 616 (by decide +kernel) (by decide +kernel)), (xT_of 618 (by decide +kernel) (by decide +kernel)), (xT_of 19 (by decide +kernel) (by decide +kernel)), (xT_of 90 (by decide +kernel) (by decide +kernel)), (xT_of 619 (by decide +kernel) (by decide +kernel))⟩, ⟨by decide +kernel, by decide +kernel, by decide +kernel⟩, by decide⟩
theorem lc_RX6_146 : x_VL RX6 146 yX1_isValid m_X1_isValid 1 := ⟨⟨(xT_of 626 (by decide +kernel) (by decide +kernel)), (xT_of 627 (by decide +kernel) (by decide +kernel)), (xT_of 628 (by decide +kernel) (by decide +kernel)), (xT_of 96 (by decide +kernel) (by decide +kernel)), (xT_of 629 (by decide +kernel) (by decide +kernel))⟩, ⟨by decide +kernel, by decide +kernel, by decide +kernel⟩, by decide⟩
theorem lc_RX6_150 : x_VL RX6 150 yX1_conflicts m_X1_conflicts 2 := ⟨⟨(xT_of 630 (by decide +kernel) (by decide +kernel)), (xT_of 631 (by decide +kernel) (by decide +kernel)), (xT_of 632 (by decide +kernel) (by decide +kernel)), (xT_of 96 (by decide +kernel) (by decide +kernel)), (xT_of 633 (by decide +kernel) (by decide +kernel))⟩, ⟨by decide +kernel, by decide +kernel, by decide +kernel⟩, by decide⟩
theorem lc_RX6_154 : x_VL RX6 154 yX6_isColumn m_X6_isColumn 1 := ⟨⟨(xT_of 590 (by decide +kernel) (by decide +kernel)), (xT_of 592 (by decide +kernel) (by decide +kernel)), (xT_of 18 (by decide +kernel) (by decide +kernel)), (xT_of 90 (by decide +kernel) (by decide +kernel)), (xT_of 593 (by decide +kernel) (by decide +kernel))⟩, ⟨by decide +kernel, by decide +kernel, by decide +kernel⟩, by decide⟩
theorem lc_RX6_157 : x_SL RX6 157 yX6_isSide m_X6_isSide 1 := ⟨⟨(xT_of 655 (by decide +kernel) (by decide +kernel)), (xT_of 656 (by decide +kernel) (by decide +kernel)), (xT_of 90 (by decide +kernel) (by decide +kernel)), (xT_of 657 (by decide +kernel) (by decide +kernel))⟩, ⟨by decide +kernel, by decide +kernel, by decide +kernel⟩, by decide⟩
theorem lc_RX6_160 : x_VL RX6 160 yX0_netOf m_X0_netOf 2 := ⟨⟨(xT_of 594 (by decide +kernel) (by decide +kernel)), (xT_of 415 (by decide +kernel) (by decide +kernel)), (xT_of 416 (by decide +kernel) (by decide +kernel)), (xT_of 92 (by decide +kernel) (by decide +kernel)), (xT_of 417 (by decide +kernel) (by decide +kernel))⟩, ⟨by decide +kernel, by decide +kernel, by decide +kernel⟩, by decide⟩
theorem lc_RX6_164 : x_SL RX6 164 yX6_isNet m_X6_isNet 1 := ⟨⟨(xT_of 579 (by decide +kernel) (by decide +kernel)), (xT_of 580 (by decide +kernel) (by decide +kernel)), (xT_of 90 (by decide +kernel) (by decide +kernel)), (xT_of 581 (by decide +kernel) (by decide +kernel))⟩, ⟨by decide +kernel, by decide +kernel, by decide +kernel⟩, by decide⟩
theorem lc_RX6_167 : x_VL RX6 167 yX0_columnsWith m_X0_columnsWith 1 := ⟨⟨(xT_of 662 (by decide +kernel) (by decide +kernel)), (xT_of 411 (by decide +kernel) (by decide +kernel)), (xT_of 412 (by decide +kernel) (by decide +kernel)), (xT_of 92 (by decide +kernel) (by decide +kernel)), (xT_of 413 (by decide +kernel) (by decide +kernel))⟩, ⟨by decide +kernel, by decide +kernel, by decide +kernel⟩, by decide⟩
theorem lc_RX6_170 : x_VL RX6 170 yX0_pinsOf m_X0_pinsOf 1 := ⟨⟨(xT_of 663 (by decide +kernel) (by decide +kernel)), (xT_of 664 (by decide +kernel) (by decide +kernel)), (xT_of 665 (by decide +kernel) (by decide +kernel)), (xT_of 92 (by decide +kernel) (by decide +kernel)), (xT_of 666 (by decide +kernel) (by decide +kernel))⟩, ⟨by decide +kernel, by decide +kernel, by decide +kernel⟩, by decide⟩
theorem lc_RX6_173 : x_SL RX6 173 yX6_lowest m_X6_lowest 1 := ⟨⟨(xT_of 611 (by decide +kernel) (by decide +kernel)), (xT_of 433 (by decide +kernel) (by decide +kernel)), (xT_of 90 (by decide +kernel) (by decide +kernel)), (xT_of 434 (by decide +kernel) (by decide +kernel))⟩, ⟨by decide +kernel, by decide +kernel, by decide +kernel⟩, by decide⟩
theorem lc_RX6_176 : x_SL RX6 176 yX6_highest m_X6_highest 1 := ⟨⟨(xT_of 667 (by decide +kernel) (by decide +kernel)), (xT_of 436 (by decide +kernel) (by decide +kernel)), (xT_of 90 (by decide +kernel) (by decide +kernel)), (xT_of 437 (by decide +kernel) (by decide +kernel))⟩, ⟨by decide +kernel, by decide +kernel, by decide +kernel⟩, by decide⟩
theorem lc_RX6_179 : x_VL RX6 179 yX6_isSplit m_X6_isSplit 1 := ⟨⟨(xT_of 582 (by decide +kernel) (by decide +kernel)), (xT_of 584 (by decide +kernel) (by decide +kernel)), (xT_of 17 (by decide +kernel) (by decide +kernel)), (xT_of 90 (by decide +kernel) (by decide +kernel)), (xT_of 585 (by decide +kernel) (by decide +kernel))⟩, ⟨by decide +kernel, by decide +kernel, by decide +kernel⟩, by decide⟩
theorem lc_RX6_182 : x_VL RX6 182 yX3_numberOf m_X3_numberOf 1 := ⟨⟨(xT_of 668 (by decide +kernel) (by decide +kernel)), (xT_of 669 (by decide +kernel) (by decide +kernel)), (xT_of 670 (by decide +kernel) (by decide +kernel)), (xT_of 93 (by decide +kernel) (by decide +kernel)), (xT_of 671 (by decide +kernel) (by decide +kernel))⟩, ⟨by decide +kernel, by decide +kernel, by decide +kernel⟩, by decide⟩
theorem lc_RX6_185 : x_VL RX6 185 yX6_isSegment m_X6_isSegment 1 := ⟨⟨(xT_of 676 (by decide +kernel) (by decide +kernel)), (xT_of 678 (by decide +kernel) (by decide +kernel)), (xT_of 22 (by decide +kernel) (by decide +kernel)), (xT_of 90 (by decide +kernel) (by decide +kernel)), (xT_of 679 (by decide +kernel) (by decide +kernel))⟩, ⟨by decide +kernel, by decide +kernel, by decide +kernel⟩, by decide⟩
theorem lc_RX6_204 : x_SL RX6 204 yJ6_bitCount_0f7a4 m_J6_bitCount_0f7a4 1 := ⟨⟨(xT_of 610 (by decide +kernel) (by decide +kernel)), (xT_of 427 (by decide +kernel) (by decide +kernel)), (xT_of 103 (by decide +kernel) (by decide +kernel)), (xT_of 428 (by decide +kernel) (by decide +kernel))⟩, ⟨by decide +kernel, by decide +kernel, by decide +kernel⟩, by decide⟩
theorem lc_RX6_215 : x_VL RX6 215 yX3_isAbove m_X3_isAbove 2 := ⟨⟨(xT_of 684 (by decide +kernel) (by decide +kernel)), (xT_of 482 (by decide +kernel) (by decide +kernel)), (xT_of 483 (by decide +kernel) (by decide +kernel)), (xT_of 93 (by decide +kernel) (by decide +kernel)), (xT_of 484 (by decide +kernel) (by decide +kernel))⟩, ⟨by decide +kernel, by decide +kernel, by decide +kernel⟩, by decide⟩
theorem lc_RX6_219 : x_VL RX6 219 yX3_steps m_X3_steps 2 := ⟨⟨(xT_of 689 (by decide +kernel) (by decide +kernel)), (xT_of 471 (by decide +kernel) (by decide +kernel)), (xT_of 472 (by decide +kernel) (by decide +kernel)), (xT_of 93 (by decide +kernel) (by decide +kernel)), (xT_of 473 (by decide +kernel) (by decide +kernel))⟩, ⟨by decide +kernel, by decide +kernel, by decide +kernel⟩, by decide⟩
theorem lc_RX6_222 : x_VL RX6 222 yX3_overlap m_X3_overlap 2 := ⟨⟨(xT_of 690 (by decide +kernel) (by decide +kernel)), (xT_of 541 (by decide +kernel) (by decide +kernel)), (xT_of 542 (by decide +kernel) (by decide +kernel)), (xT_of 93 (by decide +kernel) (by decide +kernel)), (xT_of 543 (by decide +kernel) (by decide +kernel))⟩, ⟨by decide +kernel, by decide +kernel, by decide +kernel⟩, by decide⟩
theorem lc_RX6_231 : x_VL RX6 231 yX1_placed m_X1_placed 0 := ⟨⟨(xT_of 571 (by decide +kernel) (by decide +kernel)), (xT_of 572 (by decide +kernel) (by decide +kernel)), (xT_of 573 (by decide +kernel) (by decide +kernel)), (xT_of 96 (by decide +kernel) (by decide +kernel)), (xT_of 574 (by decide +kernel) (by decide +kernel))⟩, ⟨by decide +kernel, by decide +kernel, by decide +kernel⟩, by decide⟩
theorem lc_RX6_234 : x_VL RX6 234 yX1_takeAllAway m_X1_takeAllAway 0 := ⟨⟨(xT_of 502 (by decide +kernel) (by decide +kernel)), (xT_of 241 (by decide +kernel) (by decide +kernel)), (xT_of 242 (by decide +kernel) (by decide +kernel)), (xT_of 96 (by decide +kernel) (by decide +kernel)), (xT_of 243 (by decide +kernel) (by decide +kernel))⟩, ⟨by decide +kernel, by decide +kernel, by decide +kernel⟩, by decide⟩
theorem lc_RX6_237 : x_VL RX6 237 yX3_hasCycle m_X3_hasCycle 0 := ⟨⟨(xT_of 523 (by decide +kernel) (by decide +kernel)), (xT_of 467 (by decide +kernel) (by decide +kernel)), (xT_of 468 (by decide +kernel) (by decide +kernel)), (xT_of 93 (by decide +kernel) (by decide +kernel)), (xT_of 469 (by decide +kernel) (by decide +kernel))⟩, ⟨by decide +kernel, by decide +kernel, by decide +kernel⟩, by decide⟩
theorem lc_RX6_240 : x_VL RX6 240 yX1_fillFromLeft m_X1_fillFromLeft 1 := ⟨⟨(xT_of 524 (by decide +kernel) (by decide +kernel)), (xT_of 525 (by decide +kernel) (by decide +kernel)), (xT_of 526 (by decide +kernel) (by decide +kernel)), (xT_of 96 (by decide +kernel) (by decide +kernel)), (xT_of 527 (by decide +kernel) (by decide +kernel))⟩, ⟨by decide +kernel, by decide +kernel, by decide +kernel⟩, by decide⟩
theorem lc_RX6_252 : x_VL RX6 252 yX1_fillBest m_X1_fillBest 2 := ⟨⟨(xT_of 555 (by decide +kernel) (by decide +kernel)), (xT_of 556 (by decide +kernel) (by decide +kernel)), (xT_of 557 (by decide +kernel) (by decide +kernel)), (xT_of 96 (by decide +kernel) (by decide +kernel)), (xT_of 558 (by decide +kernel) (by decide +kernel))⟩, ⟨by decide +kernel, by decide +kernel, by decide +kernel⟩, by decide⟩
theorem lc_RX6_256 : x_VL RX6 256 yX1_verticalNets m_X1_verticalNets 4 := ⟨⟨(xT_of 716 (by decide +kernel) (by decide +kernel)), (xT_of 638 (by decide +kernel) (by decide +kernel)), (xT_of 639 (by decide +kernel) (by decide +kernel)), (xT_of 96 (by decide +kernel) (by decide +kernel)), (xT_of 640 (by decide +kernel) (by decide +kernel))⟩, ⟨by decide +kernel, by decide +kernel, by decide +kernel⟩, by decide⟩
theorem lc_RX6_260 : x_VL RX6 260 yX0_pinsOfNets m_X0_pinsOfNets 0 := ⟨⟨(xT_of 721 (by decide +kernel) (by decide +kernel)), (xT_of 722 (by decide +kernel) (by decide +kernel)), (xT_of 723 (by decide +kernel) (by decide +kernel)), (xT_of 92 (by decide +kernel) (by decide +kernel)), (xT_of 724 (by decide +kernel) (by decide +kernel))⟩, ⟨by decide +kernel, by decide +kernel, by decide +kernel⟩, by decide⟩
theorem lc_RX6_263 : x_VL RX6 263 yX0_nets m_X0_nets 0 := ⟨⟨(xT_of 726 (by decide +kernel) (by decide +kernel)), (xT_of 727 (by decide +kernel) (by decide +kernel)), (xT_of 728 (by decide +kernel) (by decide +kernel)), (xT_of 92 (by decide +kernel) (by decide +kernel)), (xT_of 729 (by decide +kernel) (by decide +kernel))⟩, ⟨by decide +kernel, by decide +kernel, by decide +kernel⟩, by decide⟩
theorem lc_RX6_267 : x_VL RX6 267 yX6_digestChannel m_X6_digestChannel 1 := ⟨⟨(xT_of 735 (by decide +kernel) (by decide +kernel)), (xT_of 737 (by decide +kernel) (by decide +kernel)), (xT_of 23 (by decide +kernel) (by decide +kernel)), (xT_of 90 (by decide +kernel) (by decide +kernel)), (xT_of 738 (by decide +kernel) (by decide +kernel))⟩, ⟨by decide +kernel, by decide +kernel, by decide +kernel⟩, by decide⟩
theorem lc_RX6_271 : x_VL RX6 271 yX6_digestSegments m_X6_digestSegments 1 := ⟨⟨(xT_of 744 (by decide +kernel) (by decide +kernel)), (xT_of 746 (by decide +kernel) (by decide +kernel)), (xT_of 24 (by decide +kernel) (by decide +kernel)), (xT_of 90 (by decide +kernel) (by decide +kernel)), (xT_of 747 (by decide +kernel) (by decide +kernel))⟩, ⟨by decide +kernel, by decide +kernel, by decide +kernel⟩, by decide⟩
theorem lc_RX6_274 : x_VL RX6 274 yX6_digestPlan m_X6_digestPlan 1 := ⟨⟨(xT_of 751 (by decide +kernel) (by decide +kernel)), (xT_of 753 (by decide +kernel) (by decide +kernel)), (xT_of 25 (by decide +kernel) (by decide +kernel)), (xT_of 90 (by decide +kernel) (by decide +kernel)), (xT_of 754 (by decide +kernel) (by decide +kernel))⟩, ⟨by decide +kernel, by decide +kernel, by decide +kernel⟩, by decide⟩
theorem lc_RX6_280 : x_SL RX6 280 yX6_mix m_X6_mix 2 := ⟨⟨(xT_of 740 (by decide +kernel) (by decide +kernel)), (xT_of 741 (by decide +kernel) (by decide +kernel)), (xT_of 90 (by decide +kernel) (by decide +kernel)), (xT_of 742 (by decide +kernel) (by decide +kernel))⟩, ⟨by decide +kernel, by decide +kernel, by decide +kernel⟩, by decide⟩
theorem lc_RX6_284 : x_VL RX6 284 yX6_count m_X6_count 1 := ⟨⟨(xT_of 757 (by decide +kernel) (by decide +kernel)), (xT_of 718 (by decide +kernel) (by decide +kernel)), (xT_of 719 (by decide +kernel) (by decide +kernel)), (xT_of 90 (by decide +kernel) (by decide +kernel)), (xT_of 720 (by decide +kernel) (by decide +kernel))⟩, ⟨by decide +kernel, by decide +kernel, by decide +kernel⟩, by decide⟩
theorem lc_RX6_289 : x_VL RX6 289 yX6_about m_X6_about 1 := ⟨⟨(xT_of 739 (by decide +kernel) (by decide +kernel)), (xT_of 613 (by decide +kernel) (by decide +kernel)), (xT_of 614 (by decide +kernel) (by decide +kernel)), (xT_of 90 (by decide +kernel) (by decide +kernel)), (xT_of 615 (by decide +kernel) (by decide +kernel))⟩, ⟨by decide +kernel, by decide +kernel, by decide +kernel⟩, by decide⟩
theorem lc_RX6_292 : x_VL RX6 292 yX6_segment m_X6_segment 2 := ⟨⟨(xT_of 748 (by decide +kernel) (by decide +kernel)), (xT_of 673 (by decide +kernel) (by decide +kernel)), (xT_of 674 (by decide +kernel) (by decide +kernel)), (xT_of 90 (by decide +kernel) (by decide +kernel)), (xT_of 675 (by decide +kernel) (by decide +kernel))⟩, ⟨by decide +kernel, by decide +kernel, by decide +kernel⟩, by decide⟩
theorem lc_RX6_294 : x_VL RX6 294 yX6_ring m_X6_ring 1 := ⟨⟨(xT_of 749 (by decide +kernel) (by decide +kernel)), (xT_of 692 (by decide +kernel) (by decide +kernel)), (xT_of 693 (by decide +kernel) (by decide +kernel)), (xT_of 90 (by decide +kernel) (by decide +kernel)), (xT_of 694 (by decide +kernel) (by decide +kernel))⟩, ⟨by decide +kernel, by decide +kernel, by decide +kernel⟩, by decide⟩
theorem lc_RX6_297 : x_VL RX6 297 yX6_zone m_X6_zone 1 := ⟨⟨(xT_of 750 (by decide +kernel) (by decide +kernel)), (xT_of 696 (by decide +kernel) (by decide +kernel)), (xT_of 697 (by decide +kernel) (by decide +kernel)), (xT_of 90 (by decide +kernel) (by decide +kernel)), (xT_of 698 (by decide +kernel) (by decide +kernel))⟩, ⟨by decide +kernel, by decide +kernel, by decide +kernel⟩, by decide⟩
theorem lc_RX6_300 : x_VL RX6 300 yX6_ink m_X6_ink 1 := ⟨⟨(xT_of 755 (by decide +kernel) (by decide +kernel)), (xT_of 599 (by decide +kernel) (by decide +kernel)), (xT_of 600 (by decide +kernel) (by decide +kernel)), (xT_of 90 (by decide +kernel) (by decide +kernel)), (xT_of 601 (by decide +kernel) (by decide +kernel))⟩, ⟨by decide +kernel, by decide +kernel, by decide +kernel⟩, by decide⟩
theorem lc_RX6_303 : x_VL RX6 303 yX6_cell m_X6_cell 3 := ⟨⟨(xT_of 756 (by decide +kernel) (by decide +kernel)), (xT_of 713 (by decide +kernel) (by decide +kernel)), (xT_of 714 (by decide +kernel) (by decide +kernel)), (xT_of 90 (by decide +kernel) (by decide +kernel)), (xT_of 715 (by decide +kernel) (by decide +kernel))⟩, ⟨by decide +kernel, by decide +kernel, by decide +kernel⟩, by decide⟩
theorem lc_RX6_307 : x_VL RX6 307 yX3_build m_X3_build 2 := ⟨⟨(xT_of 406 (by decide +kernel) (by decide +kernel)), (xT_of 407 (by decide +kernel) (by decide +kernel)), (xT_of 408 (by decide +kernel) (by decide +kernel)), (xT_of 93 (by decide +kernel) (by decide +kernel)), (xT_of 409 (by decide +kernel) (by decide +kernel))⟩, ⟨by decide +kernel, by decide +kernel, by decide +kernel⟩, by decide⟩
theorem lc_RX6_311 : x_VL RX6 311 yX2_find m_X2_find 1 := ⟨⟨(xT_of 459 (by decide +kernel) (by decide +kernel)), (xT_of 460 (by decide +kernel) (by decide +kernel)), (xT_of 461 (by decide +kernel) (by decide +kernel)), (xT_of 94 (by decide +kernel) (by decide +kernel)), (xT_of 462 (by decide +kernel) (by decide +kernel))⟩, ⟨by decide +kernel, by decide +kernel, by decide +kernel⟩, by decide⟩
theorem lc_RX6_314 : x_VL RX6 314 yX5_find m_X5_find 2 := ⟨⟨(xT_of 485 (by decide +kernel) (by decide +kernel)), (xT_of 486 (by decide +kernel) (by decide +kernel)), (xT_of 487 (by decide +kernel) (by decide +kernel)), (xT_of 95 (by decide +kernel) (by decide +kernel)), (xT_of 488 (by decide +kernel) (by decide +kernel))⟩, ⟨by decide +kernel, by decide +kernel, by decide +kernel⟩, by decide⟩
theorem lc_RX6_316 : x_VL RX6 316 yX0_splittableNets m_X0_splittableNets 0 := ⟨⟨(xT_of 620 (by decide +kernel) (by decide +kernel)), (xT_of 621 (by decide +kernel) (by decide +kernel)), (xT_of 622 (by decide +kernel) (by decide +kernel)), (xT_of 92 (by decide +kernel) (by decide +kernel)), (xT_of 623 (by decide +kernel) (by decide +kernel))⟩, ⟨by decide +kernel, by decide +kernel, by decide +kernel⟩, by decide⟩
theorem lc_RX0_19 : x_VL RX0 19 yX0_netOf m_X0_netOf 2 := ⟨⟨(xT_of 414 (by decide +kernel) (by decide +kernel)), (xT_of 415 (by decide +kernel) (by decide +kernel)), (xT_of 416 (by decide +kernel) (by decide +kernel)), (xT_of 92 (by decide +kernel) (by decide +kernel)), (xT_of 417 (by decide +kernel) (by decide +kernel))⟩, ⟨by decide +kernel, by decide +kernel, by decide +kernel⟩, by decide⟩
theorem lc_RX0_23 : x_VL RX0 23 yX0_pinsOf m_X0_pinsOf 1 := ⟨⟨(xT_of 725 (by decide +kernel) (by decide +kernel)), (xT_of 664 (by decide +kernel) (by decide +kernel)), (xT_of 665 (by decide +kernel) (by decide +kernel)), (xT_of 92 (by decide +kernel) (by decide +kernel)), (xT_of 666 (by decide +kernel) (by decide +kernel))⟩, ⟨by decide +kernel, by decide +kernel, by decide +kernel⟩, by decide⟩
theorem lc_RX0_27 : x_VL RX0 27 yX0_columnsWith m_X0_columnsWith 1 := ⟨⟨(xT_of 624 (by decide +kernel) (by decide +kernel)), (xT_of 411 (by decide +kernel) (by decide +kernel)), (xT_of 412 (by decide +kernel) (by decide +kernel)), (xT_of 92 (by decide +kernel) (by decide +kernel)), (xT_of 413 (by decide +kernel) (by decide +kernel))⟩, ⟨by decide +kernel, by decide +kernel, by decide +kernel⟩, by decide⟩
theorem lc_RX0_30 : x_SL RX0 30 yJ6_bitCount_0f7a4 m_J6_bitCount_0f7a4 1 := ⟨⟨(xT_of 625 (by decide +kernel) (by decide +kernel)), (xT_of 427 (by decide +kernel) (by decide +kernel)), (xT_of 103 (by decide +kernel) (by decide +kernel)), (xT_of 428 (by decide +kernel) (by decide +kernel))⟩, ⟨by decide +kernel, by decide +kernel, by decide +kernel⟩, by decide⟩
theorem lc_RX1_15 : x_VL RX1 15 yX1_takeAllAway m_X1_takeAllAway 0 := ⟨⟨(xT_of 240 (by decide +kernel) (by decide +kernel)), (xT_of 241 (by decide +kernel) (by decide +kernel)), (xT_of 242 (by decide +kernel) (by decide +kernel)), (xT_of 96 (by decide +kernel) (by decide +kernel)), (xT_of 243 (by decide +kernel) (by decide +kernel))⟩, ⟨by decide +kernel, by decide +kernel, by decide +kernel⟩, by decide⟩
theorem lc_RX1_30 : x_VL RX1 30 yX1_fitsBefore m_X1_fitsBefore 2 := ⟨⟨(xT_of 563 (by decide +kernel) (by decide +kernel)), (xT_of 565 (by decide +kernel) (by decide +kernel)), (xT_of 16 (by decide +kernel) (by decide +kernel)), (xT_of 96 (by decide +kernel) (by decide +kernel)), (xT_of 566 (by decide +kernel) (by decide +kernel))⟩, ⟨by decide +kernel, by decide +kernel, by decide +kernel⟩, by decide⟩
theorem lc_RX1_34 : x_VL RX1 34 yX3_overlap m_X3_overlap 2 := ⟨⟨(xT_of 540 (by decide +kernel) (by decide +kernel)), (xT_of 541 (by decide +kernel) (by decide +kernel)), (xT_of 542 (by decide +kernel) (by decide +kernel)), (xT_of 93 (by decide +kernel) (by decide +kernel)), (xT_of 543 (by decide +kernel) (by decide +kernel))⟩, ⟨by decide +kernel, by decide +kernel, by decide +kernel⟩, by decide⟩
theorem lc_RX1_38 : x_VL RX1 38 yX3_isAbove m_X3_isAbove 2 := ⟨⟨(xT_of 544 (by decide +kernel) (by decide +kernel)), (xT_of 482 (by decide +kernel) (by decide +kernel)), (xT_of 483 (by decide +kernel) (by decide +kernel)), (xT_of 93 (by decide +kernel) (by decide +kernel)), (xT_of 484 (by decide +kernel) (by decide +kernel))⟩, ⟨by decide +kernel, by decide +kernel, by decide +kernel⟩, by decide⟩
theorem lc_RX1_41 : x_VL RX1 41 yX3_covers m_X3_covers 2 := ⟨⟨(xT_of 606 (by decide +kernel) (by decide +kernel)), (xT_of 493 (by decide +kernel) (by decide +kernel)), (xT_of 494 (by decide +kernel) (by decide +kernel)), (xT_of 93 (by decide +kernel) (by decide +kernel)), (xT_of 495 (by decide +kernel) (by decide +kernel))⟩, ⟨by decide +kernel, by decide +kernel, by decide +kernel⟩, by decide⟩
theorem lc_RX1_47 : x_VL RX1 47 yX0_netOf m_X0_netOf 2 := ⟨⟨(xT_of 641 (by decide +kernel) (by decide +kernel)), (xT_of 415 (by decide +kernel) (by decide +kernel)), (xT_of 416 (by decide +kernel) (by decide +kernel)), (xT_of 92 (by decide +kernel) (by decide +kernel)), (xT_of 417 (by decide +kernel) (by decide +kernel))⟩, ⟨by decide +kernel, by decide +kernel, by decide +kernel⟩, by decide⟩
theorem lc_RX1_52 : x_VL RX1 52 yX1_wireFromTop m_X1_wireFromTop 4 := ⟨⟨(xT_of 642 (by decide +kernel) (by decide +kernel)), (xT_of 644 (by decide +kernel) (by decide +kernel)), (xT_of 20 (by decide +kernel) (by decide +kernel)), (xT_of 96 (by decide +kernel) (by decide +kernel)), (xT_of 645 (by decide +kernel) (by decide +kernel))⟩, ⟨by decide +kernel, by decide +kernel, by decide +kernel⟩, by decide⟩
theorem lc_RX1_56 : x_VL RX1 56 yX1_wireFromBottom m_X1_wireFromBottom 4 := ⟨⟨(xT_of 647 (by decide +kernel) (by decide +kernel)), (xT_of 649 (by decide +kernel) (by decide +kernel)), (xT_of 21 (by decide +kernel) (by decide +kernel)), (xT_of 96 (by decide +kernel) (by decide +kernel)), (xT_of 650 (by decide +kernel) (by decide +kernel))⟩, ⟨by decide +kernel, by decide +kernel, by decide +kernel⟩, by decide⟩
theorem lc_RX1_59 : x_VL RX1 59 yX3_isJoined m_X3_isJoined 3 := ⟨⟨(xT_of 646 (by decide +kernel) (by decide +kernel)), (xT_of 444 (by decide +kernel) (by decide +kernel)), (xT_of 445 (by decide +kernel) (by decide +kernel)), (xT_of 93 (by decide +kernel) (by decide +kernel)), (xT_of 446 (by decide +kernel) (by decide +kernel))⟩, ⟨by decide +kernel, by decide +kernel, by decide +kernel⟩, by decide⟩
theorem lc_RX1_63 : x_VL RX1 63 yX1_depth m_X1_depth 0 := ⟨⟨(xT_of 634 (by decide +kernel) (by decide +kernel)), (xT_of 546 (by decide +kernel) (by decide +kernel)), (xT_of 547 (by decide +kernel) (by decide +kernel)), (xT_of 96 (by decide +kernel) (by decide +kernel)), (xT_of 548 (by decide +kernel) (by decide +kernel))⟩, ⟨by decide +kernel, by decide +kernel, by decide +kernel⟩, by decide⟩
theorem lc_RX1_70 : x_VL RX1 70 yX1_horizontalNets m_X1_horizontalNets 3 := ⟨⟨(xT_of 635 (by decide +kernel) (by decide +kernel)), (xT_of 603 (by decide +kernel) (by decide +kernel)), (xT_of 604 (by decide +kernel) (by decide +kernel)), (xT_of 96 (by decide +kernel) (by decide +kernel)), (xT_of 605 (by decide +kernel) (by decide +kernel))⟩, ⟨by decide +kernel, by decide +kernel, by decide +kernel⟩, by decide⟩
theorem lc_RX1_74 : x_SL RX1 74 yJ6_bitCount_0f7a4 m_J6_bitCount_0f7a4 1 := ⟨⟨(xT_of 636 (by decide +kernel) (by decide +kernel)), (xT_of 427 (by decide +kernel) (by decide +kernel)), (xT_of 103 (by decide +kernel) (by decide +kernel)), (xT_of 428 (by decide +kernel) (by decide +kernel))⟩, ⟨by decide +kernel, by decide +kernel, by decide +kernel⟩, by decide⟩
theorem lc_RX1_80 : x_VL RX1 80 yX1_verticalNets m_X1_verticalNets 4 := ⟨⟨(xT_of 637 (by decide +kernel) (by decide +kernel)), (xT_of 638 (by decide +kernel) (by decide +kernel)), (xT_of 639 (by decide +kernel) (by decide +kernel)), (xT_of 96 (by decide +kernel) (by decide +kernel)), (xT_of 640 (by decide +kernel) (by decide +kernel))⟩, ⟨by decide +kernel, by decide +kernel, by decide +kernel⟩, by decide⟩
theorem lc_RX1_84 : x_VL RX1 84 yX1_fillTrack m_X1_fillTrack 2 := ⟨⟨(xT_of 528 (by decide +kernel) (by decide +kernel)), (xT_of 530 (by decide +kernel) (by decide +kernel)), (xT_of 12 (by decide +kernel) (by decide +kernel)), (xT_of 96 (by decide +kernel) (by decide +kernel)), (xT_of 531 (by decide +kernel) (by decide +kernel))⟩, ⟨by decide +kernel, by decide +kernel, by decide +kernel⟩, by decide⟩
theorem lc_RX1_88 : x_VL RX1 88 yX1_leftmost m_X1_leftmost 2 := ⟨⟨(xT_of 532 (by decide +kernel) (by decide +kernel)), (xT_of 534 (by decide +kernel) (by decide +kernel)), (xT_of 13 (by decide +kernel) (by decide +kernel)), (xT_of 96 (by decide +kernel) (by decide +kernel)), (xT_of 535 (by decide +kernel) (by decide +kernel))⟩, ⟨by decide +kernel, by decide +kernel, by decide +kernel⟩, by decide⟩
theorem lc_RX1_95 : x_VL RX1 95 yX1_isFree m_X1_isFree 3 := ⟨⟨(xT_of 536 (by decide +kernel) (by decide +kernel)), (xT_of 538 (by decide +kernel) (by decide +kernel)), (xT_of 14 (by decide +kernel) (by decide +kernel)), (xT_of 96 (by decide +kernel) (by decide +kernel)), (xT_of 539 (by decide +kernel) (by decide +kernel))⟩, ⟨by decide +kernel, by decide +kernel, by decide +kernel⟩, by decide⟩
theorem lc_RX1_99 : x_VL RX1 99 yX1_placeFrom m_X1_placeFrom 3 := ⟨⟨(xT_of 559 (by decide +kernel) (by decide +kernel)), (xT_of 561 (by decide +kernel) (by decide +kernel)), (xT_of 15 (by decide +kernel) (by decide +kernel)), (xT_of 96 (by decide +kernel) (by decide +kernel)), (xT_of 562 (by decide +kernel) (by decide +kernel))⟩, ⟨by decide +kernel, by decide +kernel, by decide +kernel⟩, by decide⟩
theorem lc_RX2_19 : x_SL RX2 19 yX2_startOfShortest m_X2_startOfShortest 1 := ⟨⟨(xT_of 463 (by decide +kernel) (by decide +kernel)), (xT_of 464 (by decide +kernel) (by decide +kernel)), (xT_of 94 (by decide +kernel) (by decide +kernel)), (xT_of 465 (by decide +kernel) (by decide +kernel))⟩, ⟨by decide +kernel, by decide +kernel, by decide +kernel⟩, by decide⟩
theorem lc_RX2_23 : x_VL RX2 23 yX3_steps m_X3_steps 2 := ⟨⟨(xT_of 470 (by decide +kernel) (by decide +kernel)), (xT_of 471 (by decide +kernel) (by decide +kernel)), (xT_of 472 (by decide +kernel) (by decide +kernel)), (xT_of 93 (by decide +kernel) (by decide +kernel)), (xT_of 473 (by decide +kernel) (by decide +kernel))⟩, ⟨by decide +kernel, by decide +kernel, by decide +kernel⟩, by decide⟩
theorem lc_RX2_29 : x_SL RX2 29 yX2_next m_X2_next 4 := ⟨⟨(xT_of 478 (by decide +kernel) (by decide +kernel)), (xT_of 479 (by decide +kernel) (by decide +kernel)), (xT_of 94 (by decide +kernel) (by decide +kernel)), (xT_of 480 (by decide +kernel) (by decide +kernel))⟩, ⟨by decide +kernel, by decide +kernel, by decide +kernel⟩, by decide⟩
theorem lc_RX2_33 : x_VL RX2 33 yX3_hasCycle m_X3_hasCycle 0 := ⟨⟨(xT_of 466 (by decide +kernel) (by decide +kernel)), (xT_of 467 (by decide +kernel) (by decide +kernel)), (xT_of 468 (by decide +kernel) (by decide +kernel)), (xT_of 93 (by decide +kernel) (by decide +kernel)), (xT_of 469 (by decide +kernel) (by decide +kernel))⟩, ⟨by decide +kernel, by decide +kernel, by decide +kernel⟩, by decide⟩
theorem lc_RX2_40 : x_VL RX2 40 yX3_isAbove m_X3_isAbove 2 := ⟨⟨(xT_of 481 (by decide +kernel) (by decide +kernel)), (xT_of 482 (by decide +kernel) (by decide +kernel)), (xT_of 483 (by decide +kernel) (by decide +kernel)), (xT_of 93 (by decide +kernel) (by decide +kernel)), (xT_of 484 (by decide +kernel) (by decide +kernel))⟩, ⟨by decide +kernel, by decide +kernel, by decide +kernel⟩, by decide⟩
theorem lc_RX3_40 : x_VL RX3 40 yX0_columnsWith m_X0_columnsWith 1 := ⟨⟨(xT_of 410 (by decide +kernel) (by decide +kernel)), (xT_of 411 (by decide +kernel) (by decide +kernel)), (xT_of 412 (by decide +kernel) (by decide +kernel)), (xT_of 92 (by decide +kernel) (by decide +kernel)), (xT_of 413 (by decide +kernel) (by decide +kernel))⟩, ⟨by decide +kernel, by decide +kernel, by decide +kernel⟩, by decide⟩
theorem lc_RX3_46 : x_VL RX3 46 yX3_addPieces m_X3_addPieces 2 := ⟨⟨(xT_of 418 (by decide +kernel) (by decide +kernel)), (xT_of 420 (by decide +kernel) (by decide +kernel)), (xT_of 3 (by decide +kernel) (by decide +kernel)), (xT_of 93 (by decide +kernel) (by decide +kernel)), (xT_of 421 (by decide +kernel) (by decide +kernel))⟩, ⟨by decide +kernel, by decide +kernel, by decide +kernel⟩, by decide⟩
theorem lc_RX3_50 : x_SL RX3 50 yJ6_bitCount_0f7a4 m_J6_bitCount_0f7a4 1 := ⟨⟨(xT_of 426 (by decide +kernel) (by decide +kernel)), (xT_of 427 (by decide +kernel) (by decide +kernel)), (xT_of 103 (by decide +kernel) (by decide +kernel)), (xT_of 428 (by decide +kernel) (by decide +kernel))⟩, ⟨by decide +kernel, by decide +kernel, by decide +kernel⟩, by decide⟩
theorem lc_RX3_55 : x_SN RX3 55 yX6_lowest m_X6_lowest 1 := ⟨⟨trivial, (xT_of 433 (by decide +kernel) (by decide +kernel)), (xT_of 90 (by decide +kernel) (by decide +kernel)), (xT_of 434 (by decide +kernel) (by decide +kernel))⟩, ⟨by decide +kernel, by decide +kernel, by decide +kernel⟩, by decide⟩
theorem ln_RX3_55 : ∀ (ad : Nat → Nat) (A : Nat → Prop) (U : State) (H : Heap), x_E true ad A U H → va_Nw (.methodLinkNest RX3 55 yX6_lowest "ChannelTracks") U := fun _ _ _ _ hE => (hE rfl).2.2.2.2.1
theorem lc_RX3_58 : x_SN RX3 58 yX6_highest m_X6_highest 1 := ⟨⟨trivial, (xT_of 436 (by decide +kernel) (by decide +kernel)), (xT_of 90 (by decide +kernel) (by decide +kernel)), (xT_of 437 (by decide +kernel) (by decide +kernel))⟩, ⟨by decide +kernel, by decide +kernel, by decide +kernel⟩, by decide⟩
theorem ln_RX3_58 : ∀ (ad : Nat → Nat) (A : Nat → Prop) (U : State) (H : Heap), x_E true ad A U H → va_Nw (.methodLinkNest RX3 58 yX6_highest "ChannelTracks") U := fun _ _ _ _ hE => (hE rfl).2.2.2.2.2
theorem lc_RX3_61 : x_VL RX3 61 yX3_add m_X3_add 4 := ⟨⟨(xT_of 422 (by decide +kernel) (by decide +kernel)), (xT_of 424 (by decide +kernel) (by decide +kernel)), (xT_of 4 (by decide +kernel) (by decide +kernel)), (xT_of 93 (by decide +kernel) (by decide +kernel)), (xT_of 425 (by decide +kernel) (by decide +kernel))⟩, ⟨by decide +kernel, by decide +kernel, by decide +kernel⟩, by decide⟩
theorem lc_RX3_68 : x_VL RX3 68 yX0_netOf m_X0_netOf 2 := ⟨⟨(xT_of 438 (by decide +kernel) (by decide +kernel)), (xT_of 415 (by decide +kernel) (by decide +kernel)), (xT_of 416 (by decide +kernel) (by decide +kernel)), (xT_of 92 (by decide +kernel) (by decide +kernel)), (xT_of 417 (by decide +kernel) (by decide +kernel))⟩, ⟨by decide +kernel, by decide +kernel, by decide +kernel⟩, by decide⟩
theorem lc_RX3_72 : x_VL RX3 72 yX3_constrain m_X3_constrain 3 := ⟨⟨(xT_of 439 (by decide +kernel) (by decide +kernel)), (xT_of 441 (by decide +kernel) (by decide +kernel)), (xT_of 5 (by decide +kernel) (by decide +kernel)), (xT_of 93 (by decide +kernel) (by decide +kernel)), (xT_of 442 (by decide +kernel) (by decide +kernel))⟩, ⟨by decide +kernel, by decide +kernel, by decide +kernel⟩, by decide⟩
theorem lc_RX3_76 : x_VL RX3 76 yX3_rank m_X3_rank 2 := ⟨⟨(xT_of 447 (by decide +kernel) (by decide +kernel)), (xT_of 449 (by decide +kernel) (by decide +kernel)), (xT_of 6 (by decide +kernel) (by decide +kernel)), (xT_of 93 (by decide +kernel) (by decide +kernel)), (xT_of 450 (by decide +kernel) (by decide +kernel))⟩, ⟨by decide +kernel, by decide +kernel, by decide +kernel⟩, by decide⟩
theorem lc_RX3_83 : x_VL RX3 83 yX3_isJoined m_X3_isJoined 3 := ⟨⟨(xT_of 443 (by decide +kernel) (by decide +kernel)), (xT_of 444 (by decide +kernel) (by decide +kernel)), (xT_of 445 (by decide +kernel) (by decide +kernel)), (xT_of 93 (by decide +kernel) (by decide +kernel)), (xT_of 446 (by decide +kernel) (by decide +kernel))⟩, ⟨by decide +kernel, by decide +kernel, by decide +kernel⟩, by decide⟩
theorem lc_RX3_87 : x_VL RX3 87 yX3_freeOf m_X3_freeOf 2 := ⟨⟨(xT_of 451 (by decide +kernel) (by decide +kernel)), (xT_of 453 (by decide +kernel) (by decide +kernel)), (xT_of 7 (by decide +kernel) (by decide +kernel)), (xT_of 93 (by decide +kernel) (by decide +kernel)), (xT_of 454 (by decide +kernel) (by decide +kernel))⟩, ⟨by decide +kernel, by decide +kernel, by decide +kernel⟩, by decide⟩
theorem lc_RX3_91 : x_VL RX3 91 yX3_giveRank m_X3_giveRank 3 := ⟨⟨(xT_of 455 (by decide +kernel) (by decide +kernel)), (xT_of 457 (by decide +kernel) (by decide +kernel)), (xT_of 8 (by decide +kernel) (by decide +kernel)), (xT_of 93 (by decide +kernel) (by decide +kernel)), (xT_of 458 (by decide +kernel) (by decide +kernel))⟩, ⟨by decide +kernel, by decide +kernel, by decide +kernel⟩, by decide⟩
theorem lc_RX3_95 : x_VL RX3 95 yX3_belowAny m_X3_belowAny 1 := ⟨⟨(xT_of 474 (by decide +kernel) (by decide +kernel)), (xT_of 476 (by decide +kernel) (by decide +kernel)), (xT_of 9 (by decide +kernel) (by decide +kernel)), (xT_of 93 (by decide +kernel) (by decide +kernel)), (xT_of 477 (by decide +kernel) (by decide +kernel))⟩, ⟨by decide +kernel, by decide +kernel, by decide +kernel⟩, by decide⟩
theorem lc_RX4_19 : x_VL RX4 19 yX4_fitsChannel m_X4_fitsChannel 2 := ⟨⟨(xT_of 300 (by decide +kernel) (by decide +kernel)), (xT_of 302 (by decide +kernel) (by decide +kernel)), (xT_of 0 (by decide +kernel) (by decide +kernel)), (xT_of 91 (by decide +kernel) (by decide +kernel)), (xT_of 303 (by decide +kernel) (by decide +kernel))⟩, ⟨by decide +kernel, by decide +kernel, by decide +kernel⟩, by decide⟩
theorem lc_RX4_23 : x_SL RX4 23 yX4_isPinSign m_X4_isPinSign 1 := ⟨⟨(xT_of 304 (by decide +kernel) (by decide +kernel)), (xT_of 305 (by decide +kernel) (by decide +kernel)), (xT_of 91 (by decide +kernel) (by decide +kernel)), (xT_of 306 (by decide +kernel) (by decide +kernel))⟩, ⟨by decide +kernel, by decide +kernel, by decide +kernel⟩, by decide⟩
theorem lc_RX4_27 : x_SL RX4 27 yX4_isNetSign m_X4_isNetSign 1 := ⟨⟨(xT_of 307 (by decide +kernel) (by decide +kernel)), (xT_of 308 (by decide +kernel) (by decide +kernel)), (xT_of 91 (by decide +kernel) (by decide +kernel)), (xT_of 309 (by decide +kernel) (by decide +kernel))⟩, ⟨by decide +kernel, by decide +kernel, by decide +kernel⟩, by decide⟩
theorem lc_RX4_30 : x_VL RX4 30 yX4_channelFault m_X4_channelFault 0 := ⟨⟨(xT_of 393 (by decide +kernel) (by decide +kernel)), (xT_of 297 (by decide +kernel) (by decide +kernel)), (xT_of 298 (by decide +kernel) (by decide +kernel)), (xT_of 91 (by decide +kernel) (by decide +kernel)), (xT_of 299 (by decide +kernel) (by decide +kernel))⟩, ⟨by decide +kernel, by decide +kernel, by decide +kernel⟩, by decide⟩
theorem lc_RX4_34 : x_SL RX4 34 yX4_pattern m_X4_pattern 1 := ⟨⟨(xT_of 314 (by decide +kernel) (by decide +kernel)), (xT_of 315 (by decide +kernel) (by decide +kernel)), (xT_of 91 (by decide +kernel) (by decide +kernel)), (xT_of 316 (by decide +kernel) (by decide +kernel))⟩, ⟨by decide +kernel, by decide +kernel, by decide +kernel⟩, by decide⟩
theorem lc_RX4_38 : x_VL RX4 38 yX4_agreement m_X4_agreement 1 := ⟨⟨(xT_of 323 (by decide +kernel) (by decide +kernel)), (xT_of 325 (by decide +kernel) (by decide +kernel)), (xT_of 1 (by decide +kernel) (by decide +kernel)), (xT_of 91 (by decide +kernel) (by decide +kernel)), (xT_of 326 (by decide +kernel) (by decide +kernel))⟩, ⟨by decide +kernel, by decide +kernel, by decide +kernel⟩, by decide⟩
theorem lc_RX4_71 : x_SL RX4 71 yX4_agrees m_X4_agrees 2 := ⟨⟨(xT_of 378 (by decide +kernel) (by decide +kernel)), (xT_of 379 (by decide +kernel) (by decide +kernel)), (xT_of 91 (by decide +kernel) (by decide +kernel)), (xT_of 380 (by decide +kernel) (by decide +kernel))⟩, ⟨by decide +kernel, by decide +kernel, by decide +kernel⟩, by decide⟩
theorem lc_RX5_22 : x_SL RX5 22 yX5_crossingSet m_X5_crossingSet 2 := ⟨⟨(xT_of 489 (by decide +kernel) (by decide +kernel)), (xT_of 490 (by decide +kernel) (by decide +kernel)), (xT_of 95 (by decide +kernel) (by decide +kernel)), (xT_of 491 (by decide +kernel) (by decide +kernel))⟩, ⟨by decide +kernel, by decide +kernel, by decide +kernel⟩, by decide⟩
theorem lc_RX5_26 : x_SL RX5 26 yJ6_bitCount_0f7a4 m_J6_bitCount_0f7a4 1 := ⟨⟨(xT_of 496 (by decide +kernel) (by decide +kernel)), (xT_of 427 (by decide +kernel) (by decide +kernel)), (xT_of 103 (by decide +kernel) (by decide +kernel)), (xT_of 428 (by decide +kernel) (by decide +kernel))⟩, ⟨by decide +kernel, by decide +kernel, by decide +kernel⟩, by decide⟩
theorem lc_RX5_41 : x_VL RX5 41 yX5_isNewZone m_X5_isNewZone 2 := ⟨⟨(xT_of 498 (by decide +kernel) (by decide +kernel)), (xT_of 500 (by decide +kernel) (by decide +kernel)), (xT_of 10 (by decide +kernel) (by decide +kernel)), (xT_of 95 (by decide +kernel) (by decide +kernel)), (xT_of 501 (by decide +kernel) (by decide +kernel))⟩, ⟨by decide +kernel, by decide +kernel, by decide +kernel⟩, by decide⟩
theorem lc_RX5_48 : x_VL RX5 48 yX3_covers m_X3_covers 2 := ⟨⟨(xT_of 492 (by decide +kernel) (by decide +kernel)), (xT_of 493 (by decide +kernel) (by decide +kernel)), (xT_of 494 (by decide +kernel) (by decide +kernel)), (xT_of 93 (by decide +kernel) (by decide +kernel)), (xT_of 495 (by decide +kernel) (by decide +kernel))⟩, ⟨by decide +kernel, by decide +kernel, by decide +kernel⟩, by decide⟩
theorem lc_RX7_43 : x_SL RX7 43 yX7_isBit m_X7_isBit 2 := ⟨⟨(xT_of 887 (by decide +kernel) (by decide +kernel)), (xT_of 888 (by decide +kernel) (by decide +kernel)), (xT_of 97 (by decide +kernel) (by decide +kernel)), (xT_of 889 (by decide +kernel) (by decide +kernel))⟩, ⟨by decide +kernel, by decide +kernel, by decide +kernel⟩, by decide⟩
theorem lc_RX7_47 : x_SL RX7 47 yX7_within m_X7_within 3 := ⟨⟨(xT_of 832 (by decide +kernel) (by decide +kernel)), (xT_of 833 (by decide +kernel) (by decide +kernel)), (xT_of 97 (by decide +kernel) (by decide +kernel)), (xT_of 834 (by decide +kernel) (by decide +kernel))⟩, ⟨by decide +kernel, by decide +kernel, by decide +kernel⟩, by decide⟩
theorem lc_RX7_55 : x_SL RX7 55 yX7_isPin m_X7_isPin 1 := ⟨⟨(xT_of 851 (by decide +kernel) (by decide +kernel)), (xT_of 852 (by decide +kernel) (by decide +kernel)), (xT_of 97 (by decide +kernel) (by decide +kernel)), (xT_of 853 (by decide +kernel) (by decide +kernel))⟩, ⟨by decide +kernel, by decide +kernel, by decide +kernel⟩, by decide⟩
theorem lc_RX7_63 : x_VL RX7 63 yX7_pinsFrom m_X7_pinsFrom 2 := ⟨⟨(xT_of 847 (by decide +kernel) (by decide +kernel)), (xT_of 849 (by decide +kernel) (by decide +kernel)), (xT_of 27 (by decide +kernel) (by decide +kernel)), (xT_of 97 (by decide +kernel) (by decide +kernel)), (xT_of 850 (by decide +kernel) (by decide +kernel))⟩, ⟨by decide +kernel, by decide +kernel, by decide +kernel⟩, by decide⟩
theorem lc_RX7_70 : x_SL RX7 70 yX7_sayingAt m_X7_sayingAt 2 := ⟨⟨(xT_of 862 (by decide +kernel) (by decide +kernel)), (xT_of 863 (by decide +kernel) (by decide +kernel)), (xT_of 97 (by decide +kernel) (by decide +kernel)), (xT_of 864 (by decide +kernel) (by decide +kernel))⟩, ⟨by decide +kernel, by decide +kernel, by decide +kernel⟩, by decide⟩
theorem lc_RX7_73 : x_SL RX7 73 yX7_isAs m_X7_isAs 2 := ⟨⟨(xT_of 865 (by decide +kernel) (by decide +kernel)), (xT_of 866 (by decide +kernel) (by decide +kernel)), (xT_of 97 (by decide +kernel) (by decide +kernel)), (xT_of 867 (by decide +kernel) (by decide +kernel))⟩, ⟨by decide +kernel, by decide +kernel, by decide +kernel⟩, by decide⟩
theorem lc_RX7_76 : x_VL RX7 76 yX7_likeSaying m_X7_likeSaying 1 := ⟨⟨(xT_of 858 (by decide +kernel) (by decide +kernel)), (xT_of 860 (by decide +kernel) (by decide +kernel)), (xT_of 29 (by decide +kernel) (by decide +kernel)), (xT_of 97 (by decide +kernel) (by decide +kernel)), (xT_of 861 (by decide +kernel) (by decide +kernel))⟩, ⟨by decide +kernel, by decide +kernel, by decide +kernel⟩, by decide⟩
theorem lc_RX7_80 : x_VL RX7 80 yX7_readChannel m_X7_readChannel 0 := ⟨⟨(xT_of 843 (by decide +kernel) (by decide +kernel)), (xT_of 845 (by decide +kernel) (by decide +kernel)), (xT_of 26 (by decide +kernel) (by decide +kernel)), (xT_of 97 (by decide +kernel) (by decide +kernel)), (xT_of 846 (by decide +kernel) (by decide +kernel))⟩, ⟨by decide +kernel, by decide +kernel, by decide +kernel⟩, by decide⟩
theorem lc_RX7_84 : x_VL RX7 84 yX7_readSaying m_X7_readSaying 0 := ⟨⟨(xT_of 854 (by decide +kernel) (by decide +kernel)), (xT_of 856 (by decide +kernel) (by decide +kernel)), (xT_of 28 (by decide +kernel) (by decide +kernel)), (xT_of 97 (by decide +kernel) (by decide +kernel)), (xT_of 857 (by decide +kernel) (by decide +kernel))⟩, ⟨by decide +kernel, by decide +kernel, by decide +kernel⟩, by decide⟩
theorem lc_RX7_90 : x_SL RX7 90 yX7_netBy m_X7_netBy 1 := ⟨⟨(xT_of 872 (by decide +kernel) (by decide +kernel)), (xT_of 873 (by decide +kernel) (by decide +kernel)), (xT_of 97 (by decide +kernel) (by decide +kernel)), (xT_of 874 (by decide +kernel) (by decide +kernel))⟩, ⟨by decide +kernel, by decide +kernel, by decide +kernel⟩, by decide⟩
theorem lc_RX7_99 : x_VL RX7 99 yX7_layNew m_X7_layNew 0 := ⟨⟨(xT_of 875 (by decide +kernel) (by decide +kernel)), (xT_of 877 (by decide +kernel) (by decide +kernel)), (xT_of 30 (by decide +kernel) (by decide +kernel)), (xT_of 97 (by decide +kernel) (by decide +kernel)), (xT_of 878 (by decide +kernel) (by decide +kernel))⟩, ⟨by decide +kernel, by decide +kernel, by decide +kernel⟩, by decide⟩
theorem lc_RX7_102 : x_VL RX7 102 yX7_pack m_X7_pack 0 := ⟨⟨(xT_of 953 (by decide +kernel) (by decide +kernel)), (xT_of 954 (by decide +kernel) (by decide +kernel)), (xT_of 955 (by decide +kernel) (by decide +kernel)), (xT_of 97 (by decide +kernel) (by decide +kernel)), (xT_of 956 (by decide +kernel) (by decide +kernel))⟩, ⟨by decide +kernel, by decide +kernel, by decide +kernel⟩, by decide⟩
theorem lc_RX7_105 : x_VL RX7 105 yX7_best m_X7_best 0 := ⟨⟨(xT_of 985 (by decide +kernel) (by decide +kernel)), (xT_of 986 (by decide +kernel) (by decide +kernel)), (xT_of 987 (by decide +kernel) (by decide +kernel)), (xT_of 97 (by decide +kernel) (by decide +kernel)), (xT_of 988 (by decide +kernel) (by decide +kernel))⟩, ⟨by decide +kernel, by decide +kernel, by decide +kernel⟩, by decide⟩
theorem lc_RX7_108 : x_VL RX7 108 yX7_clear m_X7_clear 0 := ⟨⟨(xT_of 1001 (by decide +kernel) (by decide +kernel)), (xT_of 1002 (by decide +kernel) (by decide +kernel)), (xT_of 1003 (by decide +kernel) (by decide +kernel)), (xT_of 97 (by decide +kernel) (by decide +kernel)), (xT_of 1004 (by decide +kernel) (by decide +kernel))⟩, ⟨by decide +kernel, by decide +kernel, by decide +kernel⟩, by decide⟩
theorem lc_RX7_111 : x_VL RX7 111 yX7_cut m_X7_cut 2 := ⟨⟨(xT_of 1005 (by decide +kernel) (by decide +kernel)), (xT_of 1006 (by decide +kernel) (by decide +kernel)), (xT_of 1007 (by decide +kernel) (by decide +kernel)), (xT_of 97 (by decide +kernel) (by decide +kernel)), (xT_of 1008 (by decide +kernel) (by decide +kernel))⟩, ⟨by decide +kernel, by decide +kernel, by decide +kernel⟩, by decide⟩
theorem lc_RX7_115 : x_VL RX7 115 yX7_turn m_X7_turn 1 := ⟨⟨(xT_of 1009 (by decide +kernel) (by decide +kernel)), (xT_of 1010 (by decide +kernel) (by decide +kernel)), (xT_of 1011 (by decide +kernel) (by decide +kernel)), (xT_of 97 (by decide +kernel) (by decide +kernel)), (xT_of 1012 (by decide +kernel) (by decide +kernel))⟩, ⟨by decide +kernel, by decide +kernel, by decide +kernel⟩, by decide⟩
theorem lc_RX7_118 : x_VL RX7 118 yX7_sayingNow m_X7_sayingNow 0 := ⟨⟨(xT_of 945 (by decide +kernel) (by decide +kernel)), (xT_of 947 (by decide +kernel) (by decide +kernel)), (xT_of 45 (by decide +kernel) (by decide +kernel)), (xT_of 97 (by decide +kernel) (by decide +kernel)), (xT_of 948 (by decide +kernel) (by decide +kernel))⟩, ⟨by decide +kernel, by decide +kernel, by decide +kernel⟩, by decide⟩
theorem lc_RX7_121 : x_VL RX7 121 yX7_saidNow m_X7_saidNow 1 := ⟨⟨(xT_of 949 (by decide +kernel) (by decide +kernel)), (xT_of 951 (by decide +kernel) (by decide +kernel)), (xT_of 46 (by decide +kernel) (by decide +kernel)), (xT_of 97 (by decide +kernel) (by decide +kernel)), (xT_of 952 (by decide +kernel) (by decide +kernel))⟩, ⟨by decide +kernel, by decide +kernel, by decide +kernel⟩, by decide⟩
theorem lc_RX7_124 : x_VL RX7 124 yX7_top m_X7_top 1 := ⟨⟨(xT_of 898 (by decide +kernel) (by decide +kernel)), (xT_of 900 (by decide +kernel) (by decide +kernel)), (xT_of 35 (by decide +kernel) (by decide +kernel)), (xT_of 97 (by decide +kernel) (by decide +kernel)), (xT_of 901 (by decide +kernel) (by decide +kernel))⟩, ⟨by decide +kernel, by decide +kernel, by decide +kernel⟩, by decide⟩
theorem lc_RX7_127 : x_VL RX7 127 yX7_bottom m_X7_bottom 1 := ⟨⟨(xT_of 902 (by decide +kernel) (by decide +kernel)), (xT_of 904 (by decide +kernel) (by decide +kernel)), (xT_of 36 (by decide +kernel) (by decide +kernel)), (xT_of 97 (by decide +kernel) (by decide +kernel)), (xT_of 905 (by decide +kernel) (by decide +kernel))⟩, ⟨by decide +kernel, by decide +kernel, by decide +kernel⟩, by decide⟩
theorem lc_RX7_133 : x_VL RX7 133 yX7_hasPin m_X7_hasPin 2 := ⟨⟨(xT_of 894 (by decide +kernel) (by decide +kernel)), (xT_of 896 (by decide +kernel) (by decide +kernel)), (xT_of 34 (by decide +kernel) (by decide +kernel)), (xT_of 97 (by decide +kernel) (by decide +kernel)), (xT_of 897 (by decide +kernel) (by decide +kernel))⟩, ⟨by decide +kernel, by decide +kernel, by decide +kernel⟩, by decide⟩
theorem lc_RX7_136 : x_VL RX7 136 yX7_addSegment m_X7_addSegment 3 := ⟨⟨(xT_of 906 (by decide +kernel) (by decide +kernel)), (xT_of 908 (by decide +kernel) (by decide +kernel)), (xT_of 37 (by decide +kernel) (by decide +kernel)), (xT_of 97 (by decide +kernel) (by decide +kernel)), (xT_of 909 (by decide +kernel) (by decide +kernel))⟩, ⟨by decide +kernel, by decide +kernel, by decide +kernel⟩, by decide⟩
theorem lc_RX7_140 : x_VL RX7 140 yX7_isWithin m_X7_isWithin 2 := ⟨⟨(xT_of 918 (by decide +kernel) (by decide +kernel)), (xT_of 920 (by decide +kernel) (by decide +kernel)), (xT_of 40 (by decide +kernel) (by decide +kernel)), (xT_of 97 (by decide +kernel) (by decide +kernel)), (xT_of 921 (by decide +kernel) (by decide +kernel))⟩, ⟨by decide +kernel, by decide +kernel, by decide +kernel⟩, by decide⟩
theorem lc_RX7_143 : x_VL RX7 143 yX7_touches m_X7_touches 2 := ⟨⟨(xT_of 914 (by decide +kernel) (by decide +kernel)), (xT_of 916 (by decide +kernel) (by decide +kernel)), (xT_of 39 (by decide +kernel) (by decide +kernel)), (xT_of 97 (by decide +kernel) (by decide +kernel)), (xT_of 917 (by decide +kernel) (by decide +kernel))⟩, ⟨by decide +kernel, by decide +kernel, by decide +kernel⟩, by decide⟩
theorem lc_RX7_146 : x_VL RX7 146 yX7_layNet m_X7_layNet 2 := ⟨⟨(xT_of 890 (by decide +kernel) (by decide +kernel)), (xT_of 892 (by decide +kernel) (by decide +kernel)), (xT_of 33 (by decide +kernel) (by decide +kernel)), (xT_of 97 (by decide +kernel) (by decide +kernel)), (xT_of 893 (by decide +kernel) (by decide +kernel))⟩, ⟨by decide +kernel, by decide +kernel, by decide +kernel⟩, by decide⟩
theorem lc_RX7_150 : x_VL RX7 150 yX7_isAbove m_X7_isAbove 2 := ⟨⟨(xT_of 910 (by decide +kernel) (by decide +kernel)), (xT_of 912 (by decide +kernel) (by decide +kernel)), (xT_of 38 (by decide +kernel) (by decide +kernel)), (xT_of 97 (by decide +kernel) (by decide +kernel)), (xT_of 913 (by decide +kernel) (by decide +kernel))⟩, ⟨by decide +kernel, by decide +kernel, by decide +kernel⟩, by decide⟩
theorem lc_RX7_153 : x_VL RX7 153 yX7_layBack m_X7_layBack 2 := ⟨⟨(xT_of 934 (by decide +kernel) (by decide +kernel)), (xT_of 936 (by decide +kernel) (by decide +kernel)), (xT_of 44 (by decide +kernel) (by decide +kernel)), (xT_of 97 (by decide +kernel) (by decide +kernel)), (xT_of 937 (by decide +kernel) (by decide +kernel))⟩, ⟨by decide +kernel, by decide +kernel, by decide +kernel⟩, by decide⟩
theorem lc_RX7_159 : x_SL RX7 159 yX7_leastOf m_X7_leastOf 1 := ⟨⟨(xT_of 938 (by decide +kernel) (by decide +kernel)), (xT_of 939 (by decide +kernel) (by decide +kernel)), (xT_of 97 (by decide +kernel) (by decide +kernel)), (xT_of 940 (by decide +kernel) (by decide +kernel))⟩, ⟨by decide +kernel, by decide +kernel, by decide +kernel⟩, by decide⟩
theorem lc_RX7_162 : x_VL RX7 162 yX7_isRing m_X7_isRing 0 := ⟨⟨(xT_of 926 (by decide +kernel) (by decide +kernel)), (xT_of 928 (by decide +kernel) (by decide +kernel)), (xT_of 42 (by decide +kernel) (by decide +kernel)), (xT_of 97 (by decide +kernel) (by decide +kernel)), (xT_of 929 (by decide +kernel) (by decide +kernel))⟩, ⟨by decide +kernel, by decide +kernel, by decide +kernel⟩, by decide⟩
theorem lc_RX7_166 : x_VL RX7 166 yX7_findRing m_X7_findRing 1 := ⟨⟨(xT_of 930 (by decide +kernel) (by decide +kernel)), (xT_of 932 (by decide +kernel) (by decide +kernel)), (xT_of 43 (by decide +kernel) (by decide +kernel)), (xT_of 97 (by decide +kernel) (by decide +kernel)), (xT_of 933 (by decide +kernel) (by decide +kernel))⟩, ⟨by decide +kernel, by decide +kernel, by decide +kernel⟩, by decide⟩
theorem lc_RX7_169 : x_VL RX7 169 yX7_laySegments m_X7_laySegments 1 := ⟨⟨(xT_of 883 (by decide +kernel) (by decide +kernel)), (xT_of 885 (by decide +kernel) (by decide +kernel)), (xT_of 32 (by decide +kernel) (by decide +kernel)), (xT_of 97 (by decide +kernel) (by decide +kernel)), (xT_of 886 (by decide +kernel) (by decide +kernel))⟩, ⟨by decide +kernel, by decide +kernel, by decide +kernel⟩, by decide⟩
theorem lc_RX7_173 : x_VL RX7 173 yX7_layRing m_X7_layRing 0 := ⟨⟨(xT_of 922 (by decide +kernel) (by decide +kernel)), (xT_of 924 (by decide +kernel) (by decide +kernel)), (xT_of 41 (by decide +kernel) (by decide +kernel)), (xT_of 97 (by decide +kernel) (by decide +kernel)), (xT_of 925 (by decide +kernel) (by decide +kernel))⟩, ⟨by decide +kernel, by decide +kernel, by decide +kernel⟩, by decide⟩
theorem lc_RX7_176 : x_VL RX7 176 yX7_layNow m_X7_layNow 0 := ⟨⟨(xT_of 879 (by decide +kernel) (by decide +kernel)), (xT_of 881 (by decide +kernel) (by decide +kernel)), (xT_of 31 (by decide +kernel) (by decide +kernel)), (xT_of 97 (by decide +kernel) (by decide +kernel)), (xT_of 882 (by decide +kernel) (by decide +kernel))⟩, ⟨by decide +kernel, by decide +kernel, by decide +kernel⟩, by decide⟩
theorem lc_RX7_179 : x_VL RX7 179 yX7_isMet m_X7_isMet 2 := ⟨⟨(xT_of 977 (by decide +kernel) (by decide +kernel)), (xT_of 979 (by decide +kernel) (by decide +kernel)), (xT_of 52 (by decide +kernel) (by decide +kernel)), (xT_of 97 (by decide +kernel) (by decide +kernel)), (xT_of 980 (by decide +kernel) (by decide +kernel))⟩, ⟨by decide +kernel, by decide +kernel, by decide +kernel⟩, by decide⟩
theorem lc_RX7_182 : x_VL RX7 182 yX7_isFine m_X7_isFine 2 := ⟨⟨(xT_of 997 (by decide +kernel) (by decide +kernel)), (xT_of 999 (by decide +kernel) (by decide +kernel)), (xT_of 56 (by decide +kernel) (by decide +kernel)), (xT_of 97 (by decide +kernel) (by decide +kernel)), (xT_of 1000 (by decide +kernel) (by decide +kernel))⟩, ⟨by decide +kernel, by decide +kernel, by decide +kernel⟩, by decide⟩
theorem lc_RX7_185 : x_VL RX7 185 yX7_depth m_X7_depth 0 := ⟨⟨(xT_of 981 (by decide +kernel) (by decide +kernel)), (xT_of 983 (by decide +kernel) (by decide +kernel)), (xT_of 53 (by decide +kernel) (by decide +kernel)), (xT_of 97 (by decide +kernel) (by decide +kernel)), (xT_of 984 (by decide +kernel) (by decide +kernel))⟩, ⟨by decide +kernel, by decide +kernel, by decide +kernel⟩, by decide⟩
theorem lc_RX7_188 : x_VL RX7 188 yX7_flat m_X7_flat 2 := ⟨⟨(xT_of 1029 (by decide +kernel) (by decide +kernel)), (xT_of 1031 (by decide +kernel) (by decide +kernel)), (xT_of 60 (by decide +kernel) (by decide +kernel)), (xT_of 97 (by decide +kernel) (by decide +kernel)), (xT_of 1032 (by decide +kernel) (by decide +kernel))⟩, ⟨by decide +kernel, by decide +kernel, by decide +kernel⟩, by decide⟩
theorem lc_RX7_191 : x_SL RX7 191 yX7_size m_X7_size 1 := ⟨⟨(xT_of 1033 (by decide +kernel) (by decide +kernel)), (xT_of 1034 (by decide +kernel) (by decide +kernel)), (xT_of 97 (by decide +kernel) (by decide +kernel)), (xT_of 1035 (by decide +kernel) (by decide +kernel))⟩, ⟨by decide +kernel, by decide +kernel, by decide +kernel⟩, by decide⟩
theorem lc_RX7_194 : x_VL RX7 194 yX7_upright m_X7_upright 2 := ⟨⟨(xT_of 1088 (by decide +kernel) (by decide +kernel)), (xT_of 1090 (by decide +kernel) (by decide +kernel)), (xT_of 73 (by decide +kernel) (by decide +kernel)), (xT_of 97 (by decide +kernel) (by decide +kernel)), (xT_of 1091 (by decide +kernel) (by decide +kernel))⟩, ⟨by decide +kernel, by decide +kernel, by decide +kernel⟩, by decide⟩
theorem lc_RX7_197 : x_VL RX7 197 yX7_isThere m_X7_isThere 0 := ⟨⟨(xT_of 957 (by decide +kernel) (by decide +kernel)), (xT_of 959 (by decide +kernel) (by decide +kernel)), (xT_of 47 (by decide +kernel) (by decide +kernel)), (xT_of 97 (by decide +kernel) (by decide +kernel)), (xT_of 960 (by decide +kernel) (by decide +kernel))⟩, ⟨by decide +kernel, by decide +kernel, by decide +kernel⟩, by decide⟩
theorem lc_RX7_200 : x_VL RX7 200 yX7_inkLength m_X7_inkLength 0 := ⟨⟨(xT_of 1021 (by decide +kernel) (by decide +kernel)), (xT_of 1023 (by decide +kernel) (by decide +kernel)), (xT_of 58 (by decide +kernel) (by decide +kernel)), (xT_of 97 (by decide +kernel) (by decide +kernel)), (xT_of 1024 (by decide +kernel) (by decide +kernel))⟩, ⟨by decide +kernel, by decide +kernel, by decide +kernel⟩, by decide⟩
theorem lc_RX7_203 : x_VL RX7 203 yX7_inkNow m_X7_inkNow 1 := ⟨⟨(xT_of 1025 (by decide +kernel) (by decide +kernel)), (xT_of 1027 (by decide +kernel) (by decide +kernel)), (xT_of 59 (by decide +kernel) (by decide +kernel)), (xT_of 97 (by decide +kernel) (by decide +kernel)), (xT_of 1028 (by decide +kernel) (by decide +kernel))⟩, ⟨by decide +kernel, by decide +kernel, by decide +kernel⟩, by decide⟩
theorem lc_RX7_206 : x_VL RX7 206 yX7_netsIn m_X7_netsIn 1 := ⟨⟨(xT_of 1048 (by decide +kernel) (by decide +kernel)), (xT_of 1050 (by decide +kernel) (by decide +kernel)), (xT_of 63 (by decide +kernel) (by decide +kernel)), (xT_of 97 (by decide +kernel) (by decide +kernel)), (xT_of 1051 (by decide +kernel) (by decide +kernel))⟩, ⟨by decide +kernel, by decide +kernel, by decide +kernel⟩, by decide⟩
theorem lc_RX7_209 : x_VL RX7 209 yX7_isZone m_X7_isZone 1 := ⟨⟨(xT_of 1076 (by decide +kernel) (by decide +kernel)), (xT_of 1078 (by decide +kernel) (by decide +kernel)), (xT_of 70 (by decide +kernel) (by decide +kernel)), (xT_of 97 (by decide +kernel) (by decide +kernel)), (xT_of 1079 (by decide +kernel) (by decide +kernel))⟩, ⟨by decide +kernel, by decide +kernel, by decide +kernel⟩, by decide⟩
theorem lc_RX7_212 : x_VL RX7 212 yX7_levelOf m_X7_levelOf 1 := ⟨⟨(xT_of 1060 (by decide +kernel) (by decide +kernel)), (xT_of 1062 (by decide +kernel) (by decide +kernel)), (xT_of 66 (by decide +kernel) (by decide +kernel)), (xT_of 97 (by decide +kernel) (by decide +kernel)), (xT_of 1063 (by decide +kernel) (by decide +kernel))⟩, ⟨by decide +kernel, by decide +kernel, by decide +kernel⟩, by decide⟩
theorem lc_RX7_215 : x_VL RX7 215 yX7_level m_X7_level 1 := ⟨⟨(xT_of 1056 (by decide +kernel) (by decide +kernel)), (xT_of 1058 (by decide +kernel) (by decide +kernel)), (xT_of 65 (by decide +kernel) (by decide +kernel)), (xT_of 97 (by decide +kernel) (by decide +kernel)), (xT_of 1059 (by decide +kernel) (by decide +kernel))⟩, ⟨by decide +kernel, by decide +kernel, by decide +kernel⟩, by decide⟩
theorem lc_RX7_218 : x_VL RX7 218 yX7_breakBy m_X7_breakBy 1 := ⟨⟨(xT_of 1068 (by decide +kernel) (by decide +kernel)), (xT_of 1070 (by decide +kernel) (by decide +kernel)), (xT_of 68 (by decide +kernel) (by decide +kernel)), (xT_of 97 (by decide +kernel) (by decide +kernel)), (xT_of 1071 (by decide +kernel) (by decide +kernel))⟩, ⟨by decide +kernel, by decide +kernel, by decide +kernel⟩, by decide⟩
theorem lc_RX7_221 : x_VL RX7 221 yX7_density m_X7_density 0 := ⟨⟨(xT_of 1044 (by decide +kernel) (by decide +kernel)), (xT_of 1046 (by decide +kernel) (by decide +kernel)), (xT_of 62 (by decide +kernel) (by decide +kernel)), (xT_of 97 (by decide +kernel) (by decide +kernel)), (xT_of 1047 (by decide +kernel) (by decide +kernel))⟩, ⟨by decide +kernel, by decide +kernel, by decide +kernel⟩, by decide⟩
theorem lc_RX7_224 : x_VL RX7 224 yX7_chain m_X7_chain 0 := ⟨⟨(xT_of 1052 (by decide +kernel) (by decide +kernel)), (xT_of 1054 (by decide +kernel) (by decide +kernel)), (xT_of 64 (by decide +kernel) (by decide +kernel)), (xT_of 97 (by decide +kernel) (by decide +kernel)), (xT_of 1055 (by decide +kernel) (by decide +kernel))⟩, ⟨by decide +kernel, by decide +kernel, by decide +kernel⟩, by decide⟩
theorem lc_RX7_227 : x_VL RX7 227 yX7_breakNow m_X7_breakNow 0 := ⟨⟨(xT_of 1064 (by decide +kernel) (by decide +kernel)), (xT_of 1066 (by decide +kernel) (by decide +kernel)), (xT_of 67 (by decide +kernel) (by decide +kernel)), (xT_of 97 (by decide +kernel) (by decide +kernel)), (xT_of 1067 (by decide +kernel) (by decide +kernel))⟩, ⟨by decide +kernel, by decide +kernel, by decide +kernel⟩, by decide⟩
theorem lc_RX7_230 : x_VL RX7 230 yX7_zones m_X7_zones 1 := ⟨⟨(xT_of 1072 (by decide +kernel) (by decide +kernel)), (xT_of 1074 (by decide +kernel) (by decide +kernel)), (xT_of 69 (by decide +kernel) (by decide +kernel)), (xT_of 97 (by decide +kernel) (by decide +kernel)), (xT_of 1075 (by decide +kernel) (by decide +kernel))⟩, ⟨by decide +kernel, by decide +kernel, by decide +kernel⟩, by decide⟩
theorem lc_RX7_233 : x_VL RX7 233 yX7_fits m_X7_fits 0 := ⟨⟨(xT_of 1080 (by decide +kernel) (by decide +kernel)), (xT_of 1082 (by decide +kernel) (by decide +kernel)), (xT_of 71 (by decide +kernel) (by decide +kernel)), (xT_of 97 (by decide +kernel) (by decide +kernel)), (xT_of 1083 (by decide +kernel) (by decide +kernel))⟩, ⟨by decide +kernel, by decide +kernel, by decide +kernel⟩, by decide⟩
theorem lc_RX7_236 : x_VL RX7 236 yX7_clashes m_X7_clashes 0 := ⟨⟨(xT_of 1084 (by decide +kernel) (by decide +kernel)), (xT_of 1086 (by decide +kernel) (by decide +kernel)), (xT_of 72 (by decide +kernel) (by decide +kernel)), (xT_of 97 (by decide +kernel) (by decide +kernel)), (xT_of 1087 (by decide +kernel) (by decide +kernel))⟩, ⟨by decide +kernel, by decide +kernel, by decide +kernel⟩, by decide⟩
theorem lc_RX7_239 : x_VL RX7 239 yX7_aboutNow m_X7_aboutNow 1 := ⟨⟨(xT_of 1040 (by decide +kernel) (by decide +kernel)), (xT_of 1042 (by decide +kernel) (by decide +kernel)), (xT_of 61 (by decide +kernel) (by decide +kernel)), (xT_of 97 (by decide +kernel) (by decide +kernel)), (xT_of 1043 (by decide +kernel) (by decide +kernel))⟩, ⟨by decide +kernel, by decide +kernel, by decide +kernel⟩, by decide⟩
theorem lc_RX7_242 : x_VL RX7 242 yX7_isColumn m_X7_isColumn 1 := ⟨⟨(xT_of 1013 (by decide +kernel) (by decide +kernel)), (xT_of 1015 (by decide +kernel) (by decide +kernel)), (xT_of 57 (by decide +kernel) (by decide +kernel)), (xT_of 97 (by decide +kernel) (by decide +kernel)), (xT_of 1016 (by decide +kernel) (by decide +kernel))⟩, ⟨by decide +kernel, by decide +kernel, by decide +kernel⟩, by decide⟩
theorem lc_RX7_245 : x_VL RX7 245 yX7_pinsOf m_X7_pinsOf 1 := ⟨⟨(xT_of 1104 (by decide +kernel) (by decide +kernel)), (xT_of 1106 (by decide +kernel) (by decide +kernel)), (xT_of 75 (by decide +kernel) (by decide +kernel)), (xT_of 97 (by decide +kernel) (by decide +kernel)), (xT_of 1107 (by decide +kernel) (by decide +kernel))⟩, ⟨by decide +kernel, by decide +kernel, by decide +kernel⟩, by decide⟩
theorem lc_RX7_248 : x_VL RX7 248 yX7_firstPin m_X7_firstPin 1 := ⟨⟨(xT_of 1112 (by decide +kernel) (by decide +kernel)), (xT_of 1114 (by decide +kernel) (by decide +kernel)), (xT_of 77 (by decide +kernel) (by decide +kernel)), (xT_of 97 (by decide +kernel) (by decide +kernel)), (xT_of 1115 (by decide +kernel) (by decide +kernel))⟩, ⟨by decide +kernel, by decide +kernel, by decide +kernel⟩, by decide⟩
theorem lc_RX7_251 : x_VL RX7 251 yX7_lastPin m_X7_lastPin 1 := ⟨⟨(xT_of 1116 (by decide +kernel) (by decide +kernel)), (xT_of 1118 (by decide +kernel) (by decide +kernel)), (xT_of 78 (by decide +kernel) (by decide +kernel)), (xT_of 97 (by decide +kernel) (by decide +kernel)), (xT_of 1119 (by decide +kernel) (by decide +kernel))⟩, ⟨by decide +kernel, by decide +kernel, by decide +kernel⟩, by decide⟩
theorem lc_RX7_254 : x_VL RX7 254 yX7_segmentsOf m_X7_segmentsOf 1 := ⟨⟨(xT_of 1120 (by decide +kernel) (by decide +kernel)), (xT_of 1122 (by decide +kernel) (by decide +kernel)), (xT_of 79 (by decide +kernel) (by decide +kernel)), (xT_of 97 (by decide +kernel) (by decide +kernel)), (xT_of 1123 (by decide +kernel) (by decide +kernel))⟩, ⟨by decide +kernel, by decide +kernel, by decide +kernel⟩, by decide⟩
theorem lc_RX7_257 : x_VL RX7 257 yX7_isNetThere m_X7_isNetThere 1 := ⟨⟨(xT_of 1100 (by decide +kernel) (by decide +kernel)), (xT_of 1102 (by decide +kernel) (by decide +kernel)), (xT_of 74 (by decide +kernel) (by decide +kernel)), (xT_of 97 (by decide +kernel) (by decide +kernel)), (xT_of 1103 (by decide +kernel) (by decide +kernel))⟩, ⟨by decide +kernel, by decide +kernel, by decide +kernel⟩, by decide⟩
theorem lc_RX7_260 : x_VL RX7 260 yX7_netNow m_X7_netNow 2 := ⟨⟨(xT_of 1108 (by decide +kernel) (by decide +kernel)), (xT_of 1110 (by decide +kernel) (by decide +kernel)), (xT_of 76 (by decide +kernel) (by decide +kernel)), (xT_of 97 (by decide +kernel) (by decide +kernel)), (xT_of 1111 (by decide +kernel) (by decide +kernel))⟩, ⟨by decide +kernel, by decide +kernel, by decide +kernel⟩, by decide⟩
theorem lc_RX7_263 : x_VL RX7 263 yX7_overIt m_X7_overIt 1 := ⟨⟨(xT_of 1136 (by decide +kernel) (by decide +kernel)), (xT_of 1138 (by decide +kernel) (by decide +kernel)), (xT_of 82 (by decide +kernel) (by decide +kernel)), (xT_of 97 (by decide +kernel) (by decide +kernel)), (xT_of 1139 (by decide +kernel) (by decide +kernel))⟩, ⟨by decide +kernel, by decide +kernel, by decide +kernel⟩, by decide⟩
theorem lc_RX7_266 : x_VL RX7 266 yX7_isSegment m_X7_isSegment 1 := ⟨⟨(xT_of 1128 (by decide +kernel) (by decide +kernel)), (xT_of 1130 (by decide +kernel) (by decide +kernel)), (xT_of 80 (by decide +kernel) (by decide +kernel)), (xT_of 97 (by decide +kernel) (by decide +kernel)), (xT_of 1131 (by decide +kernel) (by decide +kernel))⟩, ⟨by decide +kernel, by decide +kernel, by decide +kernel⟩, by decide⟩
theorem lc_RX7_269 : x_VL RX7 269 yX7_segmentNow m_X7_segmentNow 2 := ⟨⟨(xT_of 1132 (by decide +kernel) (by decide +kernel)), (xT_of 1134 (by decide +kernel) (by decide +kernel)), (xT_of 81 (by decide +kernel) (by decide +kernel)), (xT_of 97 (by decide +kernel) (by decide +kernel)), (xT_of 1135 (by decide +kernel) (by decide +kernel))⟩, ⟨by decide +kernel, by decide +kernel, by decide +kernel⟩, by decide⟩
theorem lc_RX7_272 : x_VL RX7 272 yX7_isFree m_X7_isFree 2 := ⟨⟨(xT_of 1148 (by decide +kernel) (by decide +kernel)), (xT_of 1150 (by decide +kernel) (by decide +kernel)), (xT_of 83 (by decide +kernel) (by decide +kernel)), (xT_of 97 (by decide +kernel) (by decide +kernel)), (xT_of 1151 (by decide +kernel) (by decide +kernel))⟩, ⟨by decide +kernel, by decide +kernel, by decide +kernel⟩, by decide⟩
theorem lc_RX7_275 : x_VL RX7 275 yX7_withTrack m_X7_withTrack 0 := ⟨⟨(xT_of 965 (by decide +kernel) (by decide +kernel)), (xT_of 967 (by decide +kernel) (by decide +kernel)), (xT_of 49 (by decide +kernel) (by decide +kernel)), (xT_of 97 (by decide +kernel) (by decide +kernel)), (xT_of 968 (by decide +kernel) (by decide +kernel))⟩, ⟨by decide +kernel, by decide +kernel, by decide +kernel⟩, by decide⟩
theorem lc_RX7_278 : x_VL RX7 278 yX7_clearNow m_X7_clearNow 0 := ⟨⟨(xT_of 961 (by decide +kernel) (by decide +kernel)), (xT_of 963 (by decide +kernel) (by decide +kernel)), (xT_of 48 (by decide +kernel) (by decide +kernel)), (xT_of 97 (by decide +kernel) (by decide +kernel)), (xT_of 964 (by decide +kernel) (by decide +kernel))⟩, ⟨by decide +kernel, by decide +kernel, by decide +kernel⟩, by decide⟩
theorem lc_RX7_281 : x_VL RX7 281 yX7_mayCome m_X7_mayCome 2 := ⟨⟨(xT_of 973 (by decide +kernel) (by decide +kernel)), (xT_of 975 (by decide +kernel) (by decide +kernel)), (xT_of 51 (by decide +kernel) (by decide +kernel)), (xT_of 97 (by decide +kernel) (by decide +kernel)), (xT_of 976 (by decide +kernel) (by decide +kernel))⟩, ⟨by decide +kernel, by decide +kernel, by decide +kernel⟩, by decide⟩
theorem lc_RX7_284 : x_VL RX7 284 yX7_nextFor m_X7_nextFor 1 := ⟨⟨(xT_of 969 (by decide +kernel) (by decide +kernel)), (xT_of 971 (by decide +kernel) (by decide +kernel)), (xT_of 50 (by decide +kernel) (by decide +kernel)), (xT_of 97 (by decide +kernel) (by decide +kernel)), (xT_of 972 (by decide +kernel) (by decide +kernel))⟩, ⟨by decide +kernel, by decide +kernel, by decide +kernel⟩, by decide⟩
theorem lc_RX7_287 : x_VL RX7 287 yX7_goesOn m_X7_goesOn 1 := ⟨⟨(xT_of 993 (by decide +kernel) (by decide +kernel)), (xT_of 995 (by decide +kernel) (by decide +kernel)), (xT_of 55 (by decide +kernel) (by decide +kernel)), (xT_of 97 (by decide +kernel) (by decide +kernel)), (xT_of 996 (by decide +kernel) (by decide +kernel))⟩, ⟨by decide +kernel, by decide +kernel, by decide +kernel⟩, by decide⟩
theorem lc_RX7_293 : x_VL RX7 293 yX7_findPlan m_X7_findPlan 1 := ⟨⟨(xT_of 989 (by decide +kernel) (by decide +kernel)), (xT_of 991 (by decide +kernel) (by decide +kernel)), (xT_of 54 (by decide +kernel) (by decide +kernel)), (xT_of 97 (by decide +kernel) (by decide +kernel)), (xT_of 992 (by decide +kernel) (by decide +kernel))⟩, ⟨by decide +kernel, by decide +kernel, by decide +kernel⟩, by decide⟩
theorem lc_RX7_296 : x_VL RX7 296 yX7_netsThere m_X7_netsThere 0 := ⟨⟨(xT_of 1185 (by decide +kernel) (by decide +kernel)), (xT_of 1187 (by decide +kernel) (by decide +kernel)), (xT_of 85 (by decide +kernel) (by decide +kernel)), (xT_of 97 (by decide +kernel) (by decide +kernel)), (xT_of 1188 (by decide +kernel) (by decide +kernel))⟩, ⟨by decide +kernel, by decide +kernel, by decide +kernel⟩, by decide⟩
theorem lc_RX7_299 : x_VL RX7 299 yX7_howMany m_X7_howMany 1 := ⟨⟨(xT_of 1181 (by decide +kernel) (by decide +kernel)), (xT_of 1183 (by decide +kernel) (by decide +kernel)), (xT_of 84 (by decide +kernel) (by decide +kernel)), (xT_of 97 (by decide +kernel) (by decide +kernel)), (xT_of 1184 (by decide +kernel) (by decide +kernel))⟩, ⟨by decide +kernel, by decide +kernel, by decide +kernel⟩, by decide⟩
theorem lc_RX7_308 : x_VL RX7 308 yX7_mix m_X7_mix 1 := ⟨⟨(xT_of 1198 (by decide +kernel) (by decide +kernel)), (xT_of 1200 (by decide +kernel) (by decide +kernel)), (xT_of 87 (by decide +kernel) (by decide +kernel)), (xT_of 97 (by decide +kernel) (by decide +kernel)), (xT_of 1201 (by decide +kernel) (by decide +kernel))⟩, ⟨by decide +kernel, by decide +kernel, by decide +kernel⟩, by decide⟩
theorem lc_RX7_312 : x_VL RX7 312 yX7_mixSegments m_X7_mixSegments 0 := ⟨⟨(xT_of 1203 (by decide +kernel) (by decide +kernel)), (xT_of 1205 (by decide +kernel) (by decide +kernel)), (xT_of 88 (by decide +kernel) (by decide +kernel)), (xT_of 97 (by decide +kernel) (by decide +kernel)), (xT_of 1206 (by decide +kernel) (by decide +kernel))⟩, ⟨by decide +kernel, by decide +kernel, by decide +kernel⟩, by decide⟩
theorem lc_RX7_317 : x_VL RX7 317 yX7_mixChannel m_X7_mixChannel 0 := ⟨⟨(xT_of 1194 (by decide +kernel) (by decide +kernel)), (xT_of 1196 (by decide +kernel) (by decide +kernel)), (xT_of 86 (by decide +kernel) (by decide +kernel)), (xT_of 97 (by decide +kernel) (by decide +kernel)), (xT_of 1197 (by decide +kernel) (by decide +kernel))⟩, ⟨by decide +kernel, by decide +kernel, by decide +kernel⟩, by decide⟩
theorem lm_RX6_247 : Cond.methodLink RX6 247 Lib.Math.max.name ∈ xT ∧ Cond.static Lib.Math.max.name ∈ xT ∧ Cond.initialized "java/lang/Math" ∈ xT ∧ Cond.code Lib.Math.max.name Lib.Math.max.code 2 (some .int) ∈ xT := ⟨(xT_of 554 (by decide +kernel) (by decide +kernel)), (xT_of 382 (by decide +kernel) (by decide +kernel)), (xT_of 99 (by decide +kernel) (by decide +kernel)), (xT_of 383 (by decide +kernel) (by decide +kernel))⟩
theorem lm_RX1_18 : Cond.methodLink RX1 18 Lib.Math.max.name ∈ xT ∧ Cond.static Lib.Math.max.name ∈ xT ∧ Cond.initialized "java/lang/Math" ∈ xT ∧ Cond.code Lib.Math.max.name Lib.Math.max.code 2 (some .int) ∈ xT := ⟨(xT_of 549 (by decide +kernel) (by decide +kernel)), (xT_of 382 (by decide +kernel) (by decide +kernel)), (xT_of 99 (by decide +kernel) (by decide +kernel)), (xT_of 383 (by decide +kernel) (by decide +kernel))⟩
theorem lm_RX4_42 : Cond.methodLink RX4 42 Lib.Math.max.name ∈ xT ∧ Cond.static Lib.Math.max.name ∈ xT ∧ Cond.initialized "java/lang/Math" ∈ xT ∧ Cond.code Lib.Math.max.name Lib.Math.max.code 2 (some .int) ∈ xT := ⟨(xT_of 381 (by decide +kernel) (by decide +kernel)), (xT_of 382 (by decide +kernel) (by decide +kernel)), (xT_of 99 (by decide +kernel) (by decide +kernel)), (xT_of 383 (by decide +kernel) (by decide +kernel))⟩
theorem lm_RX4_64 : Cond.methodLink RX4 64 Lib.Math.min.name ∈ xT ∧ Cond.static Lib.Math.min.name ∈ xT ∧ Cond.initialized "java/lang/Math" ∈ xT ∧ Cond.code Lib.Math.min.name Lib.Math.min.code 2 (some .int) ∈ xT := ⟨(xT_of 337 (by decide +kernel) (by decide +kernel)), (xT_of 338 (by decide +kernel) (by decide +kernel)), (xT_of 99 (by decide +kernel) (by decide +kernel)), (xT_of 339 (by decide +kernel) (by decide +kernel))⟩
theorem lm_RX5_32 : Cond.methodLink RX5 32 Lib.Math.max.name ∈ xT ∧ Cond.static Lib.Math.max.name ∈ xT ∧ Cond.initialized "java/lang/Math" ∈ xT ∧ Cond.code Lib.Math.max.name Lib.Math.max.code 2 (some .int) ∈ xT := ⟨(xT_of 497 (by decide +kernel) (by decide +kernel)), (xT_of 382 (by decide +kernel) (by decide +kernel)), (xT_of 99 (by decide +kernel) (by decide +kernel)), (xT_of 383 (by decide +kernel) (by decide +kernel))⟩
end
section
theorem dX7_within_0 : decode cX7_within 0 = .ok (.iload_n 0, 1) := by decide +kernel
theorem dX7_within_1 : decode cX7_within 1 = .ok (.iload_n 1, 1) := by decide +kernel
theorem dX7_within_2 : decode cX7_within 2 = .ok (.if_icmp .lt 12, 3) := by decide +kernel
theorem dX7_within_5 : decode cX7_within 5 = .ok (.iload_n 0, 1) := by decide +kernel
theorem dX7_within_6 : decode cX7_within 6 = .ok (.iload_n 2, 1) := by decide +kernel
theorem dX7_within_7 : decode cX7_within 7 = .ok (.if_icmp .gt 7, 3) := by decide +kernel
theorem dX7_within_10 : decode cX7_within 10 = .ok (.iconst 1, 1) := by decide +kernel
theorem dX7_within_11 : decode cX7_within 11 = .ok (.goto 4, 3) := by decide +kernel
theorem dX7_within_14 : decode cX7_within 14 = .ok (.iconst 0, 1) := by decide +kernel
theorem dX7_within_15 : decode cX7_within 15 = .ok (.ireturn, 1) := by decide +kernel
theorem dX7_isBit_0 : decode cX7_isBit 0 = .ok (.iload_n 0, 1) := by decide +kernel
theorem dX7_isBit_1 : decode cX7_isBit 1 = .ok (.iload_n 1, 1) := by decide +kernel
theorem dX7_isBit_2 : decode cX7_isBit 2 = .ok (.ishr, 1) := by decide +kernel
theorem dX7_isBit_3 : decode cX7_isBit 3 = .ok (.iconst 1, 1) := by decide +kernel
theorem dX7_isBit_4 : decode cX7_isBit 4 = .ok (.iand, 1) := by decide +kernel
theorem dX7_isBit_5 : decode cX7_isBit 5 = .ok (.iconst 1, 1) := by decide +kernel
theorem dX7_isBit_6 : decode cX7_isBit 6 = .ok (.if_icmp .ne 7, 3) := by decide +kernel
theorem dX7_isBit_9 : decode cX7_isBit 9 = .ok (.iconst 1, 1) := by decide +kernel
theorem dX7_isBit_10 : decode cX7_isBit 10 = .ok (.goto 4, 3) := by decide +kernel
theorem dX7_isBit_13 : decode cX7_isBit 13 = .ok (.iconst 0, 1) := by decide +kernel
theorem dX7_isBit_14 : decode cX7_isBit 14 = .ok (.ireturn, 1) := by decide +kernel
theorem dX7_size_0 : decode cX7_size 0 = .ok (.iconst 0, 1) := by decide +kernel
theorem dX7_size_1 : decode cX7_size 1 = .ok (.istore_n 1, 1) := by decide +kernel
theorem dX7_size_2 : decode cX7_size 2 = .ok (.iconst 0, 1) := by decide +kernel
theorem dX7_size_3 : decode cX7_size 3 = .ok (.istore_n 2, 1) := by decide +kernel
theorem dX7_size_4 : decode cX7_size 4 = .ok (.iload_n 2, 1) := by decide +kernel
theorem dX7_size_5 : decode cX7_size 5 = .ok (.bipush 16, 2) := by decide +kernel
theorem dX7_size_7 : decode cX7_size 7 = .ok (.if_icmp .ge 17, 3) := by decide +kernel
theorem dX7_size_10 : decode cX7_size 10 = .ok (.iload_n 1, 1) := by decide +kernel
theorem dX7_size_11 : decode cX7_size 11 = .ok (.iload_n 0, 1) := by decide +kernel
theorem dX7_size_12 : decode cX7_size 12 = .ok (.iload_n 2, 1) := by decide +kernel
theorem dX7_size_13 : decode cX7_size 13 = .ok (.ishr, 1) := by decide +kernel
theorem dX7_size_14 : decode cX7_size 14 = .ok (.iconst 1, 1) := by decide +kernel
theorem dX7_size_15 : decode cX7_size 15 = .ok (.iand, 1) := by decide +kernel
theorem dX7_size_16 : decode cX7_size 16 = .ok (.iadd, 1) := by decide +kernel
theorem dX7_size_17 : decode cX7_size 17 = .ok (.istore_n 1, 1) := by decide +kernel
theorem dX7_size_18 : decode cX7_size 18 = .ok (.iinc 2 1, 3) := by decide +kernel
theorem dX7_size_21 : decode cX7_size 21 = .ok (.goto (-17), 3) := by decide +kernel
theorem dX7_size_24 : decode cX7_size 24 = .ok (.iload_n 1, 1) := by decide +kernel
theorem dX7_size_25 : decode cX7_size 25 = .ok (.ireturn, 1) := by decide +kernel
theorem dX7_leastOf_0 : decode cX7_leastOf 0 = .ok (.iconst 0, 1) := by decide +kernel
theorem dX7_leastOf_1 : decode cX7_leastOf 1 = .ok (.istore_n 1, 1) := by decide +kernel
theorem dX7_leastOf_2 : decode cX7_leastOf 2 = .ok (.iload_n 1, 1) := by decide +kernel
theorem dX7_leastOf_3 : decode cX7_leastOf 3 = .ok (.bipush 16, 2) := by decide +kernel
theorem dX7_leastOf_5 : decode cX7_leastOf 5 = .ok (.if_icmp .ge 17, 3) := by decide +kernel
theorem dX7_leastOf_8 : decode cX7_leastOf 8 = .ok (.iload_n 0, 1) := by decide +kernel
theorem dX7_leastOf_9 : decode cX7_leastOf 9 = .ok (.iload_n 1, 1) := by decide +kernel
theorem dX7_leastOf_10 : decode cX7_leastOf 10 = .ok (.invokestatic 43, 3) := by decide +kernel
theorem dX7_leastOf_13 : decode cX7_leastOf 13 = .ok (.ifCond .ne 9, 3) := by decide +kernel
theorem dX7_leastOf_16 : decode cX7_leastOf 16 = .ok (.iinc 1 1, 3) := by decide +kernel
theorem dX7_leastOf_19 : decode cX7_leastOf 19 = .ok (.goto (-17), 3) := by decide +kernel
theorem dX7_leastOf_22 : decode cX7_leastOf 22 = .ok (.iload_n 1, 1) := by decide +kernel
theorem dX7_leastOf_23 : decode cX7_leastOf 23 = .ok (.bipush 16, 2) := by decide +kernel
theorem dX7_leastOf_25 : decode cX7_leastOf 25 = .ok (.if_icmp .ge 7, 3) := by decide +kernel
theorem dX7_leastOf_28 : decode cX7_leastOf 28 = .ok (.iload_n 1, 1) := by decide +kernel
theorem dX7_leastOf_29 : decode cX7_leastOf 29 = .ok (.goto 4, 3) := by decide +kernel
theorem dX7_leastOf_32 : decode cX7_leastOf 32 = .ok (.iconst (-1), 1) := by decide +kernel
theorem dX7_leastOf_33 : decode cX7_leastOf 33 = .ok (.ireturn, 1) := by decide +kernel
theorem dX7_letter_0 : decode cX7_letter 0 = .ok (.iload_n 1, 1) := by decide +kernel
theorem dX7_letter_1 : decode cX7_letter 1 = .ok (.bipush 32, 2) := by decide +kernel
theorem dX7_letter_3 : decode cX7_letter 3 = .ok (.bipush 126, 2) := by decide +kernel
theorem dX7_letter_5 : decode cX7_letter 5 = .ok (.invokestatic 47, 3) := by decide +kernel
theorem dX7_letter_8 : decode cX7_letter 8 = .ok (.ifCond .ne 6, 3) := by decide +kernel
theorem dX7_letter_11 : decode cX7_letter 11 = .ok (.bipush (-102), 2) := by decide +kernel
theorem dX7_letter_13 : decode cX7_letter 13 = .ok (.ireturn, 1) := by decide +kernel
theorem dX7_letter_14 : decode cX7_letter 14 = .ok (.aload_n 0, 1) := by decide +kernel
theorem dX7_letter_15 : decode cX7_letter 15 = .ok (.getfield 51, 3) := by decide +kernel
theorem dX7_letter_18 : decode cX7_letter 18 = .ok (.bipush 20, 2) := by decide +kernel
theorem dX7_letter_20 : decode cX7_letter 20 = .ok (.if_icmp .ne 6, 3) := by decide +kernel
theorem dX7_letter_23 : decode cX7_letter 23 = .ok (.bipush (-104), 2) := by decide +kernel
theorem dX7_letter_25 : decode cX7_letter 25 = .ok (.ireturn, 1) := by decide +kernel
theorem dX7_letter_26 : decode cX7_letter 26 = .ok (.aload_n 0, 1) := by decide +kernel
theorem dX7_letter_27 : decode cX7_letter 27 = .ok (.getfield 34, 3) := by decide +kernel
theorem dX7_letter_30 : decode cX7_letter 30 = .ok (.aload_n 0, 1) := by decide +kernel
theorem dX7_letter_31 : decode cX7_letter 31 = .ok (.getfield 51, 3) := by decide +kernel
theorem dX7_letter_34 : decode cX7_letter 34 = .ok (.iload_n 1, 1) := by decide +kernel
theorem dX7_letter_35 : decode cX7_letter 35 = .ok (.iastore, 1) := by decide +kernel
theorem dX7_letter_36 : decode cX7_letter 36 = .ok (.aload_n 0, 1) := by decide +kernel
theorem dX7_letter_37 : decode cX7_letter 37 = .ok (.dup, 1) := by decide +kernel
theorem dX7_letter_38 : decode cX7_letter 38 = .ok (.getfield 51, 3) := by decide +kernel
theorem dX7_letter_41 : decode cX7_letter 41 = .ok (.iconst 1, 1) := by decide +kernel
theorem dX7_letter_42 : decode cX7_letter 42 = .ok (.iadd, 1) := by decide +kernel
theorem dX7_letter_43 : decode cX7_letter 43 = .ok (.putfield 51, 3) := by decide +kernel
theorem dX7_letter_46 : decode cX7_letter 46 = .ok (.aload_n 0, 1) := by decide +kernel
theorem dX7_letter_47 : decode cX7_letter 47 = .ok (.getfield 51, 3) := by decide +kernel
theorem dX7_letter_50 : decode cX7_letter 50 = .ok (.ireturn, 1) := by decide +kernel
theorem dX7_blank_0 : decode cX7_blank 0 = .ok (.aload_n 0, 1) := by decide +kernel
theorem dX7_blank_1 : decode cX7_blank 1 = .ok (.getfield 51, 3) := by decide +kernel
theorem dX7_blank_4 : decode cX7_blank 4 = .ok (.istore_n 1, 1) := by decide +kernel
theorem dX7_blank_5 : decode cX7_blank 5 = .ok (.aload_n 0, 1) := by decide +kernel
theorem dX7_blank_6 : decode cX7_blank 6 = .ok (.iconst 0, 1) := by decide +kernel
theorem dX7_blank_7 : decode cX7_blank 7 = .ok (.putfield 51, 3) := by decide +kernel
theorem dX7_blank_10 : decode cX7_blank 10 = .ok (.iload_n 1, 1) := by decide +kernel
theorem dX7_blank_11 : decode cX7_blank 11 = .ok (.ireturn, 1) := by decide +kernel
theorem dX7_isPin_0 : decode cX7_isPin 0 = .ok (.iload_n 0, 1) := by decide +kernel
theorem dX7_isPin_1 : decode cX7_isPin 1 = .ok (.bipush 46, 2) := by decide +kernel
theorem dX7_isPin_3 : decode cX7_isPin 3 = .ok (.if_icmp .eq 14, 3) := by decide +kernel
theorem dX7_isPin_6 : decode cX7_isPin 6 = .ok (.iload_n 0, 1) := by decide +kernel
theorem dX7_isPin_7 : decode cX7_isPin 7 = .ok (.bipush 97, 2) := by decide +kernel
theorem dX7_isPin_9 : decode cX7_isPin 9 = .ok (.bipush 102, 2) := by decide +kernel
theorem dX7_isPin_11 : decode cX7_isPin 11 = .ok (.invokestatic 47, 3) := by decide +kernel
theorem dX7_isPin_14 : decode cX7_isPin 14 = .ok (.ifCond .eq 7, 3) := by decide +kernel
theorem dX7_isPin_17 : decode cX7_isPin 17 = .ok (.iconst 1, 1) := by decide +kernel
theorem dX7_isPin_18 : decode cX7_isPin 18 = .ok (.goto 4, 3) := by decide +kernel
theorem dX7_isPin_21 : decode cX7_isPin 21 = .ok (.iconst 0, 1) := by decide +kernel
theorem dX7_isPin_22 : decode cX7_isPin 22 = .ok (.ireturn, 1) := by decide +kernel
theorem dX7_pinsFrom_0 : decode cX7_pinsFrom 0 = .ok (.iconst 0, 1) := by decide +kernel
theorem dX7_pinsFrom_1 : decode cX7_pinsFrom 1 = .ok (.istore_n 3, 1) := by decide +kernel
theorem dX7_pinsFrom_2 : decode cX7_pinsFrom 2 = .ok (.iload_n 3, 1) := by decide +kernel
theorem dX7_pinsFrom_3 : decode cX7_pinsFrom 3 = .ok (.iload_n 2, 1) := by decide +kernel
theorem dX7_pinsFrom_4 : decode cX7_pinsFrom 4 = .ok (.if_icmp .ge 33, 3) := by decide +kernel
theorem dX7_pinsFrom_7 : decode cX7_pinsFrom 7 = .ok (.iload_n 1, 1) := by decide +kernel
theorem dX7_pinsFrom_8 : decode cX7_pinsFrom 8 = .ok (.iload_n 3, 1) := by decide +kernel
theorem dX7_pinsFrom_9 : decode cX7_pinsFrom 9 = .ok (.iadd, 1) := by decide +kernel
theorem dX7_pinsFrom_10 : decode cX7_pinsFrom 10 = .ok (.aload_n 0, 1) := by decide +kernel
theorem dX7_pinsFrom_11 : decode cX7_pinsFrom 11 = .ok (.getfield 51, 3) := by decide +kernel
theorem dX7_pinsFrom_14 : decode cX7_pinsFrom 14 = .ok (.if_icmp .ge 23, 3) := by decide +kernel
theorem dX7_pinsFrom_17 : decode cX7_pinsFrom 17 = .ok (.aload_n 0, 1) := by decide +kernel
theorem dX7_pinsFrom_18 : decode cX7_pinsFrom 18 = .ok (.getfield 34, 3) := by decide +kernel
theorem dX7_pinsFrom_21 : decode cX7_pinsFrom 21 = .ok (.iload_n 1, 1) := by decide +kernel
theorem dX7_pinsFrom_22 : decode cX7_pinsFrom 22 = .ok (.iload_n 3, 1) := by decide +kernel
theorem dX7_pinsFrom_23 : decode cX7_pinsFrom 23 = .ok (.iadd, 1) := by decide +kernel
theorem dX7_pinsFrom_24 : decode cX7_pinsFrom 24 = .ok (.iaload, 1) := by decide +kernel
theorem dX7_pinsFrom_25 : decode cX7_pinsFrom 25 = .ok (.invokestatic 55, 3) := by decide +kernel
theorem dX7_pinsFrom_28 : decode cX7_pinsFrom 28 = .ok (.ifCond .eq 9, 3) := by decide +kernel
theorem dX7_pinsFrom_31 : decode cX7_pinsFrom 31 = .ok (.iinc 3 1, 3) := by decide +kernel
theorem dX7_pinsFrom_34 : decode cX7_pinsFrom 34 = .ok (.goto (-32), 3) := by decide +kernel
theorem dX7_pinsFrom_37 : decode cX7_pinsFrom 37 = .ok (.iload_n 3, 1) := by decide +kernel
theorem dX7_pinsFrom_38 : decode cX7_pinsFrom 38 = .ok (.ireturn, 1) := by decide +kernel
theorem dX7_readChannel_0 : decode cX7_readChannel 0 = .ok (.aload_n 0, 1) := by decide +kernel
theorem dX7_readChannel_1 : decode cX7_readChannel 1 = .ok (.iconst 0, 1) := by decide +kernel
theorem dX7_readChannel_2 : decode cX7_readChannel 2 = .ok (.putfield 59, 3) := by decide +kernel
theorem dX7_readChannel_5 : decode cX7_readChannel 5 = .ok (.aload_n 0, 1) := by decide +kernel
theorem dX7_readChannel_6 : decode cX7_readChannel 6 = .ok (.aload_n 0, 1) := by decide +kernel
theorem dX7_readChannel_7 : decode cX7_readChannel 7 = .ok (.iconst 0, 1) := by decide +kernel
theorem dX7_readChannel_8 : decode cX7_readChannel 8 = .ok (.bipush 8, 2) := by decide +kernel
theorem dX7_readChannel_10 : decode cX7_readChannel 10 = .ok (.invokevirtual 63, 3) := by decide +kernel
theorem dX7_readChannel_13 : decode cX7_readChannel 13 = .ok (.putfield 67, 3) := by decide +kernel
theorem dX7_readChannel_16 : decode cX7_readChannel 16 = .ok (.aload_n 0, 1) := by decide +kernel
theorem dX7_readChannel_17 : decode cX7_readChannel 17 = .ok (.getfield 67, 3) := by decide +kernel
theorem dX7_readChannel_20 : decode cX7_readChannel 20 = .ok (.iconst 2, 1) := by decide +kernel
theorem dX7_readChannel_21 : decode cX7_readChannel 21 = .ok (.if_icmp .lt 28, 3) := by decide +kernel
theorem dX7_readChannel_24 : decode cX7_readChannel 24 = .ok (.aload_n 0, 1) := by decide +kernel
theorem dX7_readChannel_25 : decode cX7_readChannel 25 = .ok (.getfield 67, 3) := by decide +kernel
theorem dX7_readChannel_28 : decode cX7_readChannel 28 = .ok (.aload_n 0, 1) := by decide +kernel
theorem dX7_readChannel_29 : decode cX7_readChannel 29 = .ok (.getfield 51, 3) := by decide +kernel
theorem dX7_readChannel_32 : decode cX7_readChannel 32 = .ok (.if_icmp .eq 17, 3) := by decide +kernel
theorem dX7_readChannel_35 : decode cX7_readChannel 35 = .ok (.aload_n 0, 1) := by decide +kernel
theorem dX7_readChannel_36 : decode cX7_readChannel 36 = .ok (.getfield 34, 3) := by decide +kernel
theorem dX7_readChannel_39 : decode cX7_readChannel 39 = .ok (.aload_n 0, 1) := by decide +kernel
theorem dX7_readChannel_40 : decode cX7_readChannel 40 = .ok (.getfield 67, 3) := by decide +kernel
theorem dX7_readChannel_43 : decode cX7_readChannel 43 = .ok (.iaload, 1) := by decide +kernel
theorem dX7_readChannel_44 : decode cX7_readChannel 44 = .ok (.bipush 47, 2) := by decide +kernel
theorem dX7_readChannel_46 : decode cX7_readChannel 46 = .ok (.if_icmp .eq 8, 3) := by decide +kernel
theorem dX7_readChannel_49 : decode cX7_readChannel 49 = .ok (.aload_n 0, 1) := by decide +kernel
theorem dX7_readChannel_50 : decode cX7_readChannel 50 = .ok (.getfield 67, 3) := by decide +kernel
theorem dX7_readChannel_53 : decode cX7_readChannel 53 = .ok (.ireturn, 1) := by decide +kernel
theorem dX7_readChannel_54 : decode cX7_readChannel 54 = .ok (.aload_n 0, 1) := by decide +kernel
theorem dX7_readChannel_55 : decode cX7_readChannel 55 = .ok (.aload_n 0, 1) := by decide +kernel
theorem dX7_readChannel_56 : decode cX7_readChannel 56 = .ok (.getfield 67, 3) := by decide +kernel
theorem dX7_readChannel_59 : decode cX7_readChannel 59 = .ok (.iconst 1, 1) := by decide +kernel
theorem dX7_readChannel_60 : decode cX7_readChannel 60 = .ok (.iadd, 1) := by decide +kernel
theorem dX7_readChannel_61 : decode cX7_readChannel 61 = .ok (.aload_n 0, 1) := by decide +kernel
theorem dX7_readChannel_62 : decode cX7_readChannel 62 = .ok (.getfield 67, 3) := by decide +kernel
theorem dX7_readChannel_65 : decode cX7_readChannel 65 = .ok (.invokevirtual 63, 3) := by decide +kernel
theorem dX7_readChannel_68 : decode cX7_readChannel 68 = .ok (.istore_n 1, 1) := by decide +kernel
theorem dX7_readChannel_69 : decode cX7_readChannel 69 = .ok (.aload_n 0, 1) := by decide +kernel
theorem dX7_readChannel_70 : decode cX7_readChannel 70 = .ok (.getfield 67, 3) := by decide +kernel
theorem dX7_readChannel_73 : decode cX7_readChannel 73 = .ok (.iconst 1, 1) := by decide +kernel
theorem dX7_readChannel_74 : decode cX7_readChannel 74 = .ok (.iadd, 1) := by decide +kernel
theorem dX7_readChannel_75 : decode cX7_readChannel 75 = .ok (.iload_n 1, 1) := by decide +kernel
theorem dX7_readChannel_76 : decode cX7_readChannel 76 = .ok (.iadd, 1) := by decide +kernel
theorem dX7_readChannel_77 : decode cX7_readChannel 77 = .ok (.istore_n 2, 1) := by decide +kernel
theorem dX7_readChannel_78 : decode cX7_readChannel 78 = .ok (.aload_n 0, 1) := by decide +kernel
theorem dX7_readChannel_79 : decode cX7_readChannel 79 = .ok (.iload_n 1, 1) := by decide +kernel
theorem dX7_readChannel_80 : decode cX7_readChannel 80 = .ok (.aload_n 0, 1) := by decide +kernel
theorem dX7_readChannel_81 : decode cX7_readChannel 81 = .ok (.getfield 67, 3) := by decide +kernel
theorem dX7_readChannel_84 : decode cX7_readChannel 84 = .ok (.if_icmp .ne 15, 3) := by decide +kernel
theorem dX7_readChannel_87 : decode cX7_readChannel 87 = .ok (.iload_n 2, 1) := by decide +kernel
theorem dX7_readChannel_88 : decode cX7_readChannel 88 = .ok (.aload_n 0, 1) := by decide +kernel
theorem dX7_readChannel_89 : decode cX7_readChannel 89 = .ok (.getfield 51, 3) := by decide +kernel
theorem dX7_readChannel_92 : decode cX7_readChannel 92 = .ok (.if_icmp .ne 7, 3) := by decide +kernel
theorem dX7_readChannel_95 : decode cX7_readChannel 95 = .ok (.iconst 1, 1) := by decide +kernel
theorem dX7_readChannel_96 : decode cX7_readChannel 96 = .ok (.goto 4, 3) := by decide +kernel
theorem dX7_readChannel_99 : decode cX7_readChannel 99 = .ok (.iconst 0, 1) := by decide +kernel
theorem dX7_readChannel_100 : decode cX7_readChannel 100 = .ok (.putfield 59, 3) := by decide +kernel
theorem dX7_readChannel_103 : decode cX7_readChannel 103 = .ok (.iload_n 2, 1) := by decide +kernel
theorem dX7_readChannel_104 : decode cX7_readChannel 104 = .ok (.ireturn, 1) := by decide +kernel
theorem dX7_sayingAt_0 : decode cX7_sayingAt 0 = .ok (.iload_n 0, 1) := by decide +kernel
theorem dX7_sayingAt_1 : decode cX7_sayingAt 1 = .ok (.tableswitch 289 0 4 #[35, 76, 117, 168, 218], 35) := by decide +kernel
theorem dX7_sayingAt_36 : decode cX7_sayingAt 36 = .ok (.iload_n 1, 1) := by decide +kernel
theorem dX7_sayingAt_37 : decode cX7_sayingAt 37 = .ok (.ifCond .ne 8, 3) := by decide +kernel
theorem dX7_sayingAt_40 : decode cX7_sayingAt 40 = .ok (.bipush 112, 2) := by decide +kernel
theorem dX7_sayingAt_42 : decode cX7_sayingAt 42 = .ok (.goto 34, 3) := by decide +kernel
theorem dX7_sayingAt_45 : decode cX7_sayingAt 45 = .ok (.iload_n 1, 1) := by decide +kernel
theorem dX7_sayingAt_46 : decode cX7_sayingAt 46 = .ok (.iconst 1, 1) := by decide +kernel
theorem dX7_sayingAt_47 : decode cX7_sayingAt 47 = .ok (.if_icmp .ne 8, 3) := by decide +kernel
theorem dX7_sayingAt_50 : decode cX7_sayingAt 50 = .ok (.bipush 97, 2) := by decide +kernel
theorem dX7_sayingAt_52 : decode cX7_sayingAt 52 = .ok (.goto 24, 3) := by decide +kernel
theorem dX7_sayingAt_55 : decode cX7_sayingAt 55 = .ok (.iload_n 1, 1) := by decide +kernel
theorem dX7_sayingAt_56 : decode cX7_sayingAt 56 = .ok (.iconst 2, 1) := by decide +kernel
theorem dX7_sayingAt_57 : decode cX7_sayingAt 57 = .ok (.if_icmp .ne 8, 3) := by decide +kernel
theorem dX7_sayingAt_60 : decode cX7_sayingAt 60 = .ok (.bipush 99, 2) := by decide +kernel
theorem dX7_sayingAt_62 : decode cX7_sayingAt 62 = .ok (.goto 14, 3) := by decide +kernel
theorem dX7_sayingAt_65 : decode cX7_sayingAt 65 = .ok (.iload_n 1, 1) := by decide +kernel
theorem dX7_sayingAt_66 : decode cX7_sayingAt 66 = .ok (.iconst 3, 1) := by decide +kernel
theorem dX7_sayingAt_67 : decode cX7_sayingAt 67 = .ok (.if_icmp .ne 8, 3) := by decide +kernel
theorem dX7_sayingAt_70 : decode cX7_sayingAt 70 = .ok (.bipush 107, 2) := by decide +kernel
theorem dX7_sayingAt_72 : decode cX7_sayingAt 72 = .ok (.goto 4, 3) := by decide +kernel
theorem dX7_sayingAt_75 : decode cX7_sayingAt 75 = .ok (.iconst 0, 1) := by decide +kernel
theorem dX7_sayingAt_76 : decode cX7_sayingAt 76 = .ok (.ireturn, 1) := by decide +kernel
theorem dX7_sayingAt_77 : decode cX7_sayingAt 77 = .ok (.iload_n 1, 1) := by decide +kernel
theorem dX7_sayingAt_78 : decode cX7_sayingAt 78 = .ok (.ifCond .ne 8, 3) := by decide +kernel
theorem dX7_sayingAt_81 : decode cX7_sayingAt 81 = .ok (.bipush 98, 2) := by decide +kernel
theorem dX7_sayingAt_83 : decode cX7_sayingAt 83 = .ok (.goto 34, 3) := by decide +kernel
theorem dX7_sayingAt_86 : decode cX7_sayingAt 86 = .ok (.iload_n 1, 1) := by decide +kernel
theorem dX7_sayingAt_87 : decode cX7_sayingAt 87 = .ok (.iconst 1, 1) := by decide +kernel
theorem dX7_sayingAt_88 : decode cX7_sayingAt 88 = .ok (.if_icmp .ne 8, 3) := by decide +kernel
theorem dX7_sayingAt_91 : decode cX7_sayingAt 91 = .ok (.bipush 101, 2) := by decide +kernel
theorem dX7_sayingAt_93 : decode cX7_sayingAt 93 = .ok (.goto 24, 3) := by decide +kernel
theorem dX7_sayingAt_96 : decode cX7_sayingAt 96 = .ok (.iload_n 1, 1) := by decide +kernel
theorem dX7_sayingAt_97 : decode cX7_sayingAt 97 = .ok (.iconst 2, 1) := by decide +kernel
theorem dX7_sayingAt_98 : decode cX7_sayingAt 98 = .ok (.if_icmp .ne 8, 3) := by decide +kernel
theorem dX7_sayingAt_101 : decode cX7_sayingAt 101 = .ok (.bipush 115, 2) := by decide +kernel
theorem dX7_sayingAt_103 : decode cX7_sayingAt 103 = .ok (.goto 14, 3) := by decide +kernel
theorem dX7_sayingAt_106 : decode cX7_sayingAt 106 = .ok (.iload_n 1, 1) := by decide +kernel
theorem dX7_sayingAt_107 : decode cX7_sayingAt 107 = .ok (.iconst 3, 1) := by decide +kernel
theorem dX7_sayingAt_108 : decode cX7_sayingAt 108 = .ok (.if_icmp .ne 8, 3) := by decide +kernel
theorem dX7_sayingAt_111 : decode cX7_sayingAt 111 = .ok (.bipush 116, 2) := by decide +kernel
theorem dX7_sayingAt_113 : decode cX7_sayingAt 113 = .ok (.goto 4, 3) := by decide +kernel
theorem dX7_sayingAt_116 : decode cX7_sayingAt 116 = .ok (.iconst 0, 1) := by decide +kernel
theorem dX7_sayingAt_117 : decode cX7_sayingAt 117 = .ok (.ireturn, 1) := by decide +kernel
theorem dX7_sayingAt_118 : decode cX7_sayingAt 118 = .ok (.iload_n 1, 1) := by decide +kernel
theorem dX7_sayingAt_119 : decode cX7_sayingAt 119 = .ok (.ifCond .ne 8, 3) := by decide +kernel
theorem dX7_sayingAt_122 : decode cX7_sayingAt 122 = .ok (.bipush 99, 2) := by decide +kernel
theorem dX7_sayingAt_124 : decode cX7_sayingAt 124 = .ok (.goto 44, 3) := by decide +kernel
theorem dX7_sayingAt_127 : decode cX7_sayingAt 127 = .ok (.iload_n 1, 1) := by decide +kernel
theorem dX7_sayingAt_128 : decode cX7_sayingAt 128 = .ok (.iconst 1, 1) := by decide +kernel
theorem dX7_sayingAt_129 : decode cX7_sayingAt 129 = .ok (.if_icmp .ne 8, 3) := by decide +kernel
theorem dX7_sayingAt_132 : decode cX7_sayingAt 132 = .ok (.bipush 108, 2) := by decide +kernel
theorem dX7_sayingAt_134 : decode cX7_sayingAt 134 = .ok (.goto 34, 3) := by decide +kernel
theorem dX7_sayingAt_137 : decode cX7_sayingAt 137 = .ok (.iload_n 1, 1) := by decide +kernel
theorem dX7_sayingAt_138 : decode cX7_sayingAt 138 = .ok (.iconst 2, 1) := by decide +kernel
theorem dX7_sayingAt_139 : decode cX7_sayingAt 139 = .ok (.if_icmp .ne 8, 3) := by decide +kernel
theorem dX7_sayingAt_142 : decode cX7_sayingAt 142 = .ok (.bipush 101, 2) := by decide +kernel
theorem dX7_sayingAt_144 : decode cX7_sayingAt 144 = .ok (.goto 24, 3) := by decide +kernel
theorem dX7_sayingAt_147 : decode cX7_sayingAt 147 = .ok (.iload_n 1, 1) := by decide +kernel
theorem dX7_sayingAt_148 : decode cX7_sayingAt 148 = .ok (.iconst 3, 1) := by decide +kernel
theorem dX7_sayingAt_149 : decode cX7_sayingAt 149 = .ok (.if_icmp .ne 8, 3) := by decide +kernel
theorem dX7_sayingAt_152 : decode cX7_sayingAt 152 = .ok (.bipush 97, 2) := by decide +kernel
theorem dX7_sayingAt_154 : decode cX7_sayingAt 154 = .ok (.goto 14, 3) := by decide +kernel
theorem dX7_sayingAt_157 : decode cX7_sayingAt 157 = .ok (.iload_n 1, 1) := by decide +kernel
theorem dX7_sayingAt_158 : decode cX7_sayingAt 158 = .ok (.iconst 4, 1) := by decide +kernel
theorem dX7_sayingAt_159 : decode cX7_sayingAt 159 = .ok (.if_icmp .ne 8, 3) := by decide +kernel
theorem dX7_sayingAt_162 : decode cX7_sayingAt 162 = .ok (.bipush 114, 2) := by decide +kernel
theorem dX7_sayingAt_164 : decode cX7_sayingAt 164 = .ok (.goto 4, 3) := by decide +kernel
theorem dX7_sayingAt_167 : decode cX7_sayingAt 167 = .ok (.iconst 0, 1) := by decide +kernel
theorem dX7_sayingAt_168 : decode cX7_sayingAt 168 = .ok (.ireturn, 1) := by decide +kernel
theorem dX7_sayingAt_169 : decode cX7_sayingAt 169 = .ok (.iload_n 1, 1) := by decide +kernel
theorem dX7_sayingAt_170 : decode cX7_sayingAt 170 = .ok (.ifCond .ne 8, 3) := by decide +kernel
theorem dX7_sayingAt_173 : decode cX7_sayingAt 173 = .ok (.bipush 99, 2) := by decide +kernel
theorem dX7_sayingAt_175 : decode cX7_sayingAt 175 = .ok (.goto 43, 3) := by decide +kernel
theorem dX7_sayingAt_178 : decode cX7_sayingAt 178 = .ok (.iload_n 1, 1) := by decide +kernel
theorem dX7_sayingAt_179 : decode cX7_sayingAt 179 = .ok (.iconst 1, 1) := by decide +kernel
theorem dX7_sayingAt_180 : decode cX7_sayingAt 180 = .ok (.if_icmp .ne 8, 3) := by decide +kernel
theorem dX7_sayingAt_183 : decode cX7_sayingAt 183 = .ok (.bipush 117, 2) := by decide +kernel
theorem dX7_sayingAt_185 : decode cX7_sayingAt 185 = .ok (.goto 33, 3) := by decide +kernel
theorem dX7_sayingAt_188 : decode cX7_sayingAt 188 = .ok (.iload_n 1, 1) := by decide +kernel
theorem dX7_sayingAt_189 : decode cX7_sayingAt 189 = .ok (.iconst 2, 1) := by decide +kernel
theorem dX7_sayingAt_190 : decode cX7_sayingAt 190 = .ok (.if_icmp .ne 8, 3) := by decide +kernel
theorem dX7_sayingAt_193 : decode cX7_sayingAt 193 = .ok (.bipush 116, 2) := by decide +kernel
theorem dX7_sayingAt_195 : decode cX7_sayingAt 195 = .ok (.goto 23, 3) := by decide +kernel
theorem dX7_sayingAt_198 : decode cX7_sayingAt 198 = .ok (.iload_n 1, 1) := by decide +kernel
theorem dX7_sayingAt_199 : decode cX7_sayingAt 199 = .ok (.iconst 3, 1) := by decide +kernel
theorem dX7_sayingAt_200 : decode cX7_sayingAt 200 = .ok (.if_icmp .ne 8, 3) := by decide +kernel
theorem dX7_sayingAt_203 : decode cX7_sayingAt 203 = .ok (.bipush 32, 2) := by decide +kernel
theorem dX7_sayingAt_205 : decode cX7_sayingAt 205 = .ok (.goto 13, 3) := by decide +kernel
theorem dX7_sayingAt_208 : decode cX7_sayingAt 208 = .ok (.iload_n 1, 1) := by decide +kernel
theorem dX7_sayingAt_209 : decode cX7_sayingAt 209 = .ok (.iconst 4, 1) := by decide +kernel
theorem dX7_sayingAt_210 : decode cX7_sayingAt 210 = .ok (.if_icmp .ne 7, 3) := by decide +kernel
theorem dX7_sayingAt_213 : decode cX7_sayingAt 213 = .ok (.iconst 1, 1) := by decide +kernel
theorem dX7_sayingAt_214 : decode cX7_sayingAt 214 = .ok (.goto 4, 3) := by decide +kernel
theorem dX7_sayingAt_217 : decode cX7_sayingAt 217 = .ok (.iconst 0, 1) := by decide +kernel
theorem dX7_sayingAt_218 : decode cX7_sayingAt 218 = .ok (.ireturn, 1) := by decide +kernel
theorem dX7_sayingAt_219 : decode cX7_sayingAt 219 = .ok (.iload_n 1, 1) := by decide +kernel
theorem dX7_sayingAt_220 : decode cX7_sayingAt 220 = .ok (.ifCond .ne 8, 3) := by decide +kernel
theorem dX7_sayingAt_223 : decode cX7_sayingAt 223 = .ok (.bipush 119, 2) := by decide +kernel
theorem dX7_sayingAt_225 : decode cX7_sayingAt 225 = .ok (.goto 64, 3) := by decide +kernel
theorem dX7_sayingAt_228 : decode cX7_sayingAt 228 = .ok (.iload_n 1, 1) := by decide +kernel
theorem dX7_sayingAt_229 : decode cX7_sayingAt 229 = .ok (.iconst 1, 1) := by decide +kernel
theorem dX7_sayingAt_230 : decode cX7_sayingAt 230 = .ok (.if_icmp .ne 8, 3) := by decide +kernel
theorem dX7_sayingAt_233 : decode cX7_sayingAt 233 = .ok (.bipush 104, 2) := by decide +kernel
theorem dX7_sayingAt_235 : decode cX7_sayingAt 235 = .ok (.goto 54, 3) := by decide +kernel
theorem dX7_sayingAt_238 : decode cX7_sayingAt 238 = .ok (.iload_n 1, 1) := by decide +kernel
theorem dX7_sayingAt_239 : decode cX7_sayingAt 239 = .ok (.iconst 2, 1) := by decide +kernel
theorem dX7_sayingAt_240 : decode cX7_sayingAt 240 = .ok (.if_icmp .ne 8, 3) := by decide +kernel
theorem dX7_sayingAt_243 : decode cX7_sayingAt 243 = .ok (.bipush 111, 2) := by decide +kernel
theorem dX7_sayingAt_245 : decode cX7_sayingAt 245 = .ok (.goto 44, 3) := by decide +kernel
theorem dX7_sayingAt_248 : decode cX7_sayingAt 248 = .ok (.iload_n 1, 1) := by decide +kernel
theorem dX7_sayingAt_249 : decode cX7_sayingAt 249 = .ok (.iconst 3, 1) := by decide +kernel
theorem dX7_sayingAt_250 : decode cX7_sayingAt 250 = .ok (.if_icmp .ne 8, 3) := by decide +kernel
theorem dX7_sayingAt_253 : decode cX7_sayingAt 253 = .ok (.bipush 108, 2) := by decide +kernel
theorem dX7_sayingAt_255 : decode cX7_sayingAt 255 = .ok (.goto 34, 3) := by decide +kernel
theorem dX7_sayingAt_258 : decode cX7_sayingAt 258 = .ok (.iload_n 1, 1) := by decide +kernel
theorem dX7_sayingAt_259 : decode cX7_sayingAt 259 = .ok (.iconst 4, 1) := by decide +kernel
theorem dX7_sayingAt_260 : decode cX7_sayingAt 260 = .ok (.if_icmp .ne 8, 3) := by decide +kernel
theorem dX7_sayingAt_263 : decode cX7_sayingAt 263 = .ok (.bipush 101, 2) := by decide +kernel
theorem dX7_sayingAt_265 : decode cX7_sayingAt 265 = .ok (.goto 24, 3) := by decide +kernel
theorem dX7_sayingAt_268 : decode cX7_sayingAt 268 = .ok (.iload_n 1, 1) := by decide +kernel
theorem dX7_sayingAt_269 : decode cX7_sayingAt 269 = .ok (.iconst 5, 1) := by decide +kernel
theorem dX7_sayingAt_270 : decode cX7_sayingAt 270 = .ok (.if_icmp .ne 8, 3) := by decide +kernel
theorem dX7_sayingAt_273 : decode cX7_sayingAt 273 = .ok (.bipush 32, 2) := by decide +kernel
theorem dX7_sayingAt_275 : decode cX7_sayingAt 275 = .ok (.goto 14, 3) := by decide +kernel
theorem dX7_sayingAt_278 : decode cX7_sayingAt 278 = .ok (.iload_n 1, 1) := by decide +kernel
theorem dX7_sayingAt_279 : decode cX7_sayingAt 279 = .ok (.bipush 6, 2) := by decide +kernel
theorem dX7_sayingAt_281 : decode cX7_sayingAt 281 = .ok (.if_icmp .ne 7, 3) := by decide +kernel
theorem dX7_sayingAt_284 : decode cX7_sayingAt 284 = .ok (.iconst 1, 1) := by decide +kernel
theorem dX7_sayingAt_285 : decode cX7_sayingAt 285 = .ok (.goto 4, 3) := by decide +kernel
theorem dX7_sayingAt_288 : decode cX7_sayingAt 288 = .ok (.iconst 0, 1) := by decide +kernel
theorem dX7_sayingAt_289 : decode cX7_sayingAt 289 = .ok (.ireturn, 1) := by decide +kernel
theorem dX7_sayingAt_290 : decode cX7_sayingAt 290 = .ok (.iload_n 1, 1) := by decide +kernel
theorem dX7_sayingAt_291 : decode cX7_sayingAt 291 = .ok (.ifCond .ne 8, 3) := by decide +kernel
theorem dX7_sayingAt_294 : decode cX7_sayingAt 294 = .ok (.bipush 116, 2) := by decide +kernel
theorem dX7_sayingAt_296 : decode cX7_sayingAt 296 = .ok (.goto 53, 3) := by decide +kernel
theorem dX7_sayingAt_299 : decode cX7_sayingAt 299 = .ok (.iload_n 1, 1) := by decide +kernel
theorem dX7_sayingAt_300 : decode cX7_sayingAt 300 = .ok (.iconst 1, 1) := by decide +kernel
theorem dX7_sayingAt_301 : decode cX7_sayingAt 301 = .ok (.if_icmp .ne 8, 3) := by decide +kernel
theorem dX7_sayingAt_304 : decode cX7_sayingAt 304 = .ok (.bipush 117, 2) := by decide +kernel
theorem dX7_sayingAt_306 : decode cX7_sayingAt 306 = .ok (.goto 43, 3) := by decide +kernel
theorem dX7_sayingAt_309 : decode cX7_sayingAt 309 = .ok (.iload_n 1, 1) := by decide +kernel
theorem dX7_sayingAt_310 : decode cX7_sayingAt 310 = .ok (.iconst 2, 1) := by decide +kernel
theorem dX7_sayingAt_311 : decode cX7_sayingAt 311 = .ok (.if_icmp .ne 8, 3) := by decide +kernel
theorem dX7_sayingAt_314 : decode cX7_sayingAt 314 = .ok (.bipush 114, 2) := by decide +kernel
theorem dX7_sayingAt_316 : decode cX7_sayingAt 316 = .ok (.goto 33, 3) := by decide +kernel
theorem dX7_sayingAt_319 : decode cX7_sayingAt 319 = .ok (.iload_n 1, 1) := by decide +kernel
theorem dX7_sayingAt_320 : decode cX7_sayingAt 320 = .ok (.iconst 3, 1) := by decide +kernel
theorem dX7_sayingAt_321 : decode cX7_sayingAt 321 = .ok (.if_icmp .ne 8, 3) := by decide +kernel
theorem dX7_sayingAt_324 : decode cX7_sayingAt 324 = .ok (.bipush 110, 2) := by decide +kernel
theorem dX7_sayingAt_326 : decode cX7_sayingAt 326 = .ok (.goto 23, 3) := by decide +kernel
theorem dX7_sayingAt_329 : decode cX7_sayingAt 329 = .ok (.iload_n 1, 1) := by decide +kernel
theorem dX7_sayingAt_330 : decode cX7_sayingAt 330 = .ok (.iconst 4, 1) := by decide +kernel
theorem dX7_sayingAt_331 : decode cX7_sayingAt 331 = .ok (.if_icmp .ne 8, 3) := by decide +kernel
theorem dX7_sayingAt_334 : decode cX7_sayingAt 334 = .ok (.bipush 32, 2) := by decide +kernel
theorem dX7_sayingAt_336 : decode cX7_sayingAt 336 = .ok (.goto 13, 3) := by decide +kernel
theorem dX7_sayingAt_339 : decode cX7_sayingAt 339 = .ok (.iload_n 1, 1) := by decide +kernel
theorem dX7_sayingAt_340 : decode cX7_sayingAt 340 = .ok (.iconst 5, 1) := by decide +kernel
theorem dX7_sayingAt_341 : decode cX7_sayingAt 341 = .ok (.if_icmp .ne 7, 3) := by decide +kernel
theorem dX7_sayingAt_344 : decode cX7_sayingAt 344 = .ok (.iconst 2, 1) := by decide +kernel
theorem dX7_sayingAt_345 : decode cX7_sayingAt 345 = .ok (.goto 4, 3) := by decide +kernel
theorem dX7_sayingAt_348 : decode cX7_sayingAt 348 = .ok (.iconst 0, 1) := by decide +kernel
theorem dX7_sayingAt_349 : decode cX7_sayingAt 349 = .ok (.ireturn, 1) := by decide +kernel
theorem dX7_isAs_0 : decode cX7_isAs 0 = .ok (.iload_n 0, 1) := by decide +kernel
theorem dX7_isAs_1 : decode cX7_isAs 1 = .ok (.iconst 1, 1) := by decide +kernel
theorem dX7_isAs_2 : decode cX7_isAs 2 = .ok (.if_icmp .ne 12, 3) := by decide +kernel
theorem dX7_isAs_5 : decode cX7_isAs 5 = .ok (.iload_n 1, 1) := by decide +kernel
theorem dX7_isAs_6 : decode cX7_isAs 6 = .ok (.bipush 97, 2) := by decide +kernel
theorem dX7_isAs_8 : decode cX7_isAs 8 = .ok (.bipush 102, 2) := by decide +kernel
theorem dX7_isAs_10 : decode cX7_isAs 10 = .ok (.invokestatic 47, 3) := by decide +kernel
theorem dX7_isAs_13 : decode cX7_isAs 13 = .ok (.ireturn, 1) := by decide +kernel
theorem dX7_isAs_14 : decode cX7_isAs 14 = .ok (.iload_n 0, 1) := by decide +kernel
theorem dX7_isAs_15 : decode cX7_isAs 15 = .ok (.iconst 2, 1) := by decide +kernel
theorem dX7_isAs_16 : decode cX7_isAs 16 = .ok (.if_icmp .ne 14, 3) := by decide +kernel
theorem dX7_isAs_19 : decode cX7_isAs 19 = .ok (.iload_n 1, 1) := by decide +kernel
theorem dX7_isAs_20 : decode cX7_isAs 20 = .ok (.bipush 48, 2) := by decide +kernel
theorem dX7_isAs_22 : decode cX7_isAs 22 = .ok (.bipush 57, 2) := by decide +kernel
theorem dX7_isAs_24 : decode cX7_isAs 24 = .ok (.invokestatic 47, 3) := by decide +kernel
theorem dX7_isAs_27 : decode cX7_isAs 27 = .ok (.goto 17, 3) := by decide +kernel
theorem dX7_isAs_30 : decode cX7_isAs 30 = .ok (.iload_n 0, 1) := by decide +kernel
theorem dX7_isAs_31 : decode cX7_isAs 31 = .ok (.ifCond .eq 12, 3) := by decide +kernel
theorem dX7_isAs_34 : decode cX7_isAs 34 = .ok (.iload_n 0, 1) := by decide +kernel
theorem dX7_isAs_35 : decode cX7_isAs 35 = .ok (.iload_n 1, 1) := by decide +kernel
theorem dX7_isAs_36 : decode cX7_isAs 36 = .ok (.if_icmp .ne 7, 3) := by decide +kernel
theorem dX7_isAs_39 : decode cX7_isAs 39 = .ok (.iconst 1, 1) := by decide +kernel
theorem dX7_isAs_40 : decode cX7_isAs 40 = .ok (.goto 4, 3) := by decide +kernel
theorem dX7_isAs_43 : decode cX7_isAs 43 = .ok (.iconst 0, 1) := by decide +kernel
theorem dX7_isAs_44 : decode cX7_isAs 44 = .ok (.ireturn, 1) := by decide +kernel
theorem dX7_likeSaying_0 : decode cX7_likeSaying 0 = .ok (.iconst 0, 1) := by decide +kernel
theorem dX7_likeSaying_1 : decode cX7_likeSaying 1 = .ok (.istore_n 2, 1) := by decide +kernel
theorem dX7_likeSaying_2 : decode cX7_likeSaying 2 = .ok (.iload_n 2, 1) := by decide +kernel
theorem dX7_likeSaying_3 : decode cX7_likeSaying 3 = .ok (.aload_n 0, 1) := by decide +kernel
theorem dX7_likeSaying_4 : decode cX7_likeSaying 4 = .ok (.getfield 51, 3) := by decide +kernel
theorem dX7_likeSaying_7 : decode cX7_likeSaying 7 = .ok (.if_icmp .ge 26, 3) := by decide +kernel
theorem dX7_likeSaying_10 : decode cX7_likeSaying 10 = .ok (.iload_n 1, 1) := by decide +kernel
theorem dX7_likeSaying_11 : decode cX7_likeSaying 11 = .ok (.iload_n 2, 1) := by decide +kernel
theorem dX7_likeSaying_12 : decode cX7_likeSaying 12 = .ok (.invokestatic 70, 3) := by decide +kernel
theorem dX7_likeSaying_15 : decode cX7_likeSaying 15 = .ok (.aload_n 0, 1) := by decide +kernel
theorem dX7_likeSaying_16 : decode cX7_likeSaying 16 = .ok (.getfield 34, 3) := by decide +kernel
theorem dX7_likeSaying_19 : decode cX7_likeSaying 19 = .ok (.iload_n 2, 1) := by decide +kernel
theorem dX7_likeSaying_20 : decode cX7_likeSaying 20 = .ok (.iaload, 1) := by decide +kernel
theorem dX7_likeSaying_21 : decode cX7_likeSaying 21 = .ok (.invokestatic 73, 3) := by decide +kernel
theorem dX7_likeSaying_24 : decode cX7_likeSaying 24 = .ok (.ifCond .eq 9, 3) := by decide +kernel
theorem dX7_likeSaying_27 : decode cX7_likeSaying 27 = .ok (.iinc 2 1, 3) := by decide +kernel
theorem dX7_likeSaying_30 : decode cX7_likeSaying 30 = .ok (.goto (-28), 3) := by decide +kernel
theorem dX7_likeSaying_33 : decode cX7_likeSaying 33 = .ok (.iload_n 2, 1) := by decide +kernel
theorem dX7_likeSaying_34 : decode cX7_likeSaying 34 = .ok (.ireturn, 1) := by decide +kernel
theorem dX7_readSaying_0 : decode cX7_readSaying 0 = .ok (.iconst 0, 1) := by decide +kernel
theorem dX7_readSaying_1 : decode cX7_readSaying 1 = .ok (.istore_n 1, 1) := by decide +kernel
theorem dX7_readSaying_2 : decode cX7_readSaying 2 = .ok (.iconst 0, 1) := by decide +kernel
theorem dX7_readSaying_3 : decode cX7_readSaying 3 = .ok (.istore_n 2, 1) := by decide +kernel
theorem dX7_readSaying_4 : decode cX7_readSaying 4 = .ok (.iload_n 2, 1) := by decide +kernel
theorem dX7_readSaying_5 : decode cX7_readSaying 5 = .ok (.bipush 6, 2) := by decide +kernel
theorem dX7_readSaying_7 : decode cX7_readSaying 7 = .ok (.if_icmp .ge 26, 3) := by decide +kernel
theorem dX7_readSaying_10 : decode cX7_readSaying 10 = .ok (.aload_n 0, 1) := by decide +kernel
theorem dX7_readSaying_11 : decode cX7_readSaying 11 = .ok (.iload_n 2, 1) := by decide +kernel
theorem dX7_readSaying_12 : decode cX7_readSaying 12 = .ok (.invokevirtual 76, 3) := by decide +kernel
theorem dX7_readSaying_15 : decode cX7_readSaying 15 = .ok (.istore_n 3, 1) := by decide +kernel
theorem dX7_readSaying_16 : decode cX7_readSaying 16 = .ok (.iload_n 3, 1) := by decide +kernel
theorem dX7_readSaying_17 : decode cX7_readSaying 17 = .ok (.iload_n 1, 1) := by decide +kernel
theorem dX7_readSaying_18 : decode cX7_readSaying 18 = .ok (.if_icmp .le 7, 3) := by decide +kernel
theorem dX7_readSaying_21 : decode cX7_readSaying 21 = .ok (.iload_n 3, 1) := by decide +kernel
theorem dX7_readSaying_22 : decode cX7_readSaying 22 = .ok (.goto 4, 3) := by decide +kernel
theorem dX7_readSaying_25 : decode cX7_readSaying 25 = .ok (.iload_n 1, 1) := by decide +kernel
theorem dX7_readSaying_26 : decode cX7_readSaying 26 = .ok (.istore_n 1, 1) := by decide +kernel
theorem dX7_readSaying_27 : decode cX7_readSaying 27 = .ok (.iinc 2 1, 3) := by decide +kernel
theorem dX7_readSaying_30 : decode cX7_readSaying 30 = .ok (.goto (-26), 3) := by decide +kernel
theorem dX7_readSaying_33 : decode cX7_readSaying 33 = .ok (.iload_n 1, 1) := by decide +kernel
theorem dX7_readSaying_34 : decode cX7_readSaying 34 = .ok (.ireturn, 1) := by decide +kernel
theorem dX7_sayingNow_0 : decode cX7_sayingNow 0 = .ok (.iconst 0, 1) := by decide +kernel
theorem dX7_sayingNow_1 : decode cX7_sayingNow 1 = .ok (.istore_n 1, 1) := by decide +kernel
theorem dX7_sayingNow_2 : decode cX7_sayingNow 2 = .ok (.iload_n 1, 1) := by decide +kernel
theorem dX7_sayingNow_3 : decode cX7_sayingNow 3 = .ok (.bipush 6, 2) := by decide +kernel
theorem dX7_sayingNow_5 : decode cX7_sayingNow 5 = .ok (.if_icmp .ge 34, 3) := by decide +kernel
theorem dX7_sayingNow_8 : decode cX7_sayingNow 8 = .ok (.aload_n 0, 1) := by decide +kernel
theorem dX7_sayingNow_9 : decode cX7_sayingNow 9 = .ok (.iload_n 1, 1) := by decide +kernel
theorem dX7_sayingNow_10 : decode cX7_sayingNow 10 = .ok (.invokevirtual 76, 3) := by decide +kernel
theorem dX7_sayingNow_13 : decode cX7_sayingNow 13 = .ok (.aload_n 0, 1) := by decide +kernel
theorem dX7_sayingNow_14 : decode cX7_sayingNow 14 = .ok (.getfield 51, 3) := by decide +kernel
theorem dX7_sayingNow_17 : decode cX7_sayingNow 17 = .ok (.if_icmp .ne 16, 3) := by decide +kernel
theorem dX7_sayingNow_20 : decode cX7_sayingNow 20 = .ok (.iload_n 1, 1) := by decide +kernel
theorem dX7_sayingNow_21 : decode cX7_sayingNow 21 = .ok (.aload_n 0, 1) := by decide +kernel
theorem dX7_sayingNow_22 : decode cX7_sayingNow 22 = .ok (.getfield 51, 3) := by decide +kernel
theorem dX7_sayingNow_25 : decode cX7_sayingNow 25 = .ok (.invokestatic 70, 3) := by decide +kernel
theorem dX7_sayingNow_28 : decode cX7_sayingNow 28 = .ok (.ifCond .ne 5, 3) := by decide +kernel
theorem dX7_sayingNow_31 : decode cX7_sayingNow 31 = .ok (.iload_n 1, 1) := by decide +kernel
theorem dX7_sayingNow_32 : decode cX7_sayingNow 32 = .ok (.ireturn, 1) := by decide +kernel
theorem dX7_sayingNow_33 : decode cX7_sayingNow 33 = .ok (.iinc 1 1, 3) := by decide +kernel
theorem dX7_sayingNow_36 : decode cX7_sayingNow 36 = .ok (.goto (-34), 3) := by decide +kernel
theorem dX7_sayingNow_39 : decode cX7_sayingNow 39 = .ok (.iconst (-1), 1) := by decide +kernel
theorem dX7_sayingNow_40 : decode cX7_sayingNow 40 = .ok (.ireturn, 1) := by decide +kernel
theorem dX7_fault_0 : decode cX7_fault 0 = .ok (.iload_n 1, 1) := by decide +kernel
theorem dX7_fault_1 : decode cX7_fault 1 = .ok (.iconst 0, 1) := by decide +kernel
theorem dX7_fault_2 : decode cX7_fault 2 = .ok (.iconst 1, 1) := by decide +kernel
theorem dX7_fault_3 : decode cX7_fault 3 = .ok (.invokestatic 47, 3) := by decide +kernel
theorem dX7_fault_6 : decode cX7_fault 6 = .ok (.ifCond .ne 8, 3) := by decide +kernel
theorem dX7_fault_9 : decode cX7_fault 9 = .ok (.bipush (-102), 2) := by decide +kernel
theorem dX7_fault_11 : decode cX7_fault 11 = .ok (.goto 18, 3) := by decide +kernel
theorem dX7_fault_14 : decode cX7_fault 14 = .ok (.iload_n 1, 1) := by decide +kernel
theorem dX7_fault_15 : decode cX7_fault 15 = .ok (.ifCond .ne 10, 3) := by decide +kernel
theorem dX7_fault_18 : decode cX7_fault 18 = .ok (.aload_n 0, 1) := by decide +kernel
theorem dX7_fault_19 : decode cX7_fault 19 = .ok (.invokevirtual 80, 3) := by decide +kernel
theorem dX7_fault_22 : decode cX7_fault 22 = .ok (.goto 7, 3) := by decide +kernel
theorem dX7_fault_25 : decode cX7_fault 25 = .ok (.aload_n 0, 1) := by decide +kernel
theorem dX7_fault_26 : decode cX7_fault 26 = .ok (.invokevirtual 84, 3) := by decide +kernel
theorem dX7_fault_29 : decode cX7_fault 29 = .ok (.ireturn, 1) := by decide +kernel
theorem dX7_netBy_0 : decode cX7_netBy 0 = .ok (.iload_n 0, 1) := by decide +kernel
theorem dX7_netBy_1 : decode cX7_netBy 1 = .ok (.bipush 46, 2) := by decide +kernel
theorem dX7_netBy_3 : decode cX7_netBy 3 = .ok (.if_icmp .ne 7, 3) := by decide +kernel
theorem dX7_netBy_6 : decode cX7_netBy 6 = .ok (.iconst (-1), 1) := by decide +kernel
theorem dX7_netBy_7 : decode cX7_netBy 7 = .ok (.goto 7, 3) := by decide +kernel
theorem dX7_netBy_10 : decode cX7_netBy 10 = .ok (.iload_n 0, 1) := by decide +kernel
theorem dX7_netBy_11 : decode cX7_netBy 11 = .ok (.bipush 97, 2) := by decide +kernel
theorem dX7_netBy_13 : decode cX7_netBy 13 = .ok (.isub, 1) := by decide +kernel
theorem dX7_netBy_14 : decode cX7_netBy 14 = .ok (.ireturn, 1) := by decide +kernel
theorem dX7_top_0 : decode cX7_top 0 = .ok (.aload_n 0, 1) := by decide +kernel
theorem dX7_top_1 : decode cX7_top 1 = .ok (.getfield 7, 3) := by decide +kernel
theorem dX7_top_4 : decode cX7_top 4 = .ok (.iconst 2, 1) := by decide +kernel
theorem dX7_top_5 : decode cX7_top 5 = .ok (.iload_n 1, 1) := by decide +kernel
theorem dX7_top_6 : decode cX7_top 6 = .ok (.imul, 1) := by decide +kernel
theorem dX7_top_7 : decode cX7_top 7 = .ok (.iaload, 1) := by decide +kernel
theorem dX7_top_8 : decode cX7_top 8 = .ok (.ireturn, 1) := by decide +kernel
theorem dX7_bottom_0 : decode cX7_bottom 0 = .ok (.aload_n 0, 1) := by decide +kernel
theorem dX7_bottom_1 : decode cX7_bottom 1 = .ok (.getfield 7, 3) := by decide +kernel
theorem dX7_bottom_4 : decode cX7_bottom 4 = .ok (.iconst 2, 1) := by decide +kernel
theorem dX7_bottom_5 : decode cX7_bottom 5 = .ok (.iload_n 1, 1) := by decide +kernel
theorem dX7_bottom_6 : decode cX7_bottom 6 = .ok (.imul, 1) := by decide +kernel
theorem dX7_bottom_7 : decode cX7_bottom 7 = .ok (.iconst 1, 1) := by decide +kernel
theorem dX7_bottom_8 : decode cX7_bottom 8 = .ok (.iadd, 1) := by decide +kernel
theorem dX7_bottom_9 : decode cX7_bottom 9 = .ok (.iaload, 1) := by decide +kernel
theorem dX7_bottom_10 : decode cX7_bottom 10 = .ok (.ireturn, 1) := by decide +kernel
theorem dX7_hasPin_0 : decode cX7_hasPin 0 = .ok (.aload_n 0, 1) := by decide +kernel
theorem dX7_hasPin_1 : decode cX7_hasPin 1 = .ok (.iload_n 2, 1) := by decide +kernel
theorem dX7_hasPin_2 : decode cX7_hasPin 2 = .ok (.invokevirtual 124, 3) := by decide +kernel
theorem dX7_hasPin_5 : decode cX7_hasPin 5 = .ok (.iload_n 1, 1) := by decide +kernel
theorem dX7_hasPin_6 : decode cX7_hasPin 6 = .ok (.if_icmp .eq 12, 3) := by decide +kernel
theorem dX7_hasPin_9 : decode cX7_hasPin 9 = .ok (.aload_n 0, 1) := by decide +kernel
theorem dX7_hasPin_10 : decode cX7_hasPin 10 = .ok (.iload_n 2, 1) := by decide +kernel
theorem dX7_hasPin_11 : decode cX7_hasPin 11 = .ok (.invokevirtual 127, 3) := by decide +kernel
theorem dX7_hasPin_14 : decode cX7_hasPin 14 = .ok (.iload_n 1, 1) := by decide +kernel
theorem dX7_hasPin_15 : decode cX7_hasPin 15 = .ok (.if_icmp .ne 7, 3) := by decide +kernel
theorem dX7_hasPin_18 : decode cX7_hasPin 18 = .ok (.iconst 1, 1) := by decide +kernel
theorem dX7_hasPin_19 : decode cX7_hasPin 19 = .ok (.goto 4, 3) := by decide +kernel
theorem dX7_hasPin_22 : decode cX7_hasPin 22 = .ok (.iconst 0, 1) := by decide +kernel
theorem dX7_hasPin_23 : decode cX7_hasPin 23 = .ok (.ireturn, 1) := by decide +kernel
theorem dX7_addSegment_0 : decode cX7_addSegment 0 = .ok (.aload_n 0, 1) := by decide +kernel
theorem dX7_addSegment_1 : decode cX7_addSegment 1 = .ok (.getfield 13, 3) := by decide +kernel
theorem dX7_addSegment_4 : decode cX7_addSegment 4 = .ok (.aload_n 0, 1) := by decide +kernel
theorem dX7_addSegment_5 : decode cX7_addSegment 5 = .ok (.getfield 130, 3) := by decide +kernel
theorem dX7_addSegment_8 : decode cX7_addSegment 8 = .ok (.iload_n 1, 1) := by decide +kernel
theorem dX7_addSegment_9 : decode cX7_addSegment 9 = .ok (.iastore, 1) := by decide +kernel
theorem dX7_addSegment_10 : decode cX7_addSegment 10 = .ok (.aload_n 0, 1) := by decide +kernel
theorem dX7_addSegment_11 : decode cX7_addSegment 11 = .ok (.getfield 16, 3) := by decide +kernel
theorem dX7_addSegment_14 : decode cX7_addSegment 14 = .ok (.aload_n 0, 1) := by decide +kernel
theorem dX7_addSegment_15 : decode cX7_addSegment 15 = .ok (.getfield 130, 3) := by decide +kernel
theorem dX7_addSegment_18 : decode cX7_addSegment 18 = .ok (.iload_n 2, 1) := by decide +kernel
theorem dX7_addSegment_19 : decode cX7_addSegment 19 = .ok (.iastore, 1) := by decide +kernel
theorem dX7_addSegment_20 : decode cX7_addSegment 20 = .ok (.aload_n 0, 1) := by decide +kernel
theorem dX7_addSegment_21 : decode cX7_addSegment 21 = .ok (.getfield 19, 3) := by decide +kernel
theorem dX7_addSegment_24 : decode cX7_addSegment 24 = .ok (.aload_n 0, 1) := by decide +kernel
theorem dX7_addSegment_25 : decode cX7_addSegment 25 = .ok (.getfield 130, 3) := by decide +kernel
theorem dX7_addSegment_28 : decode cX7_addSegment 28 = .ok (.iload_n 3, 1) := by decide +kernel
theorem dX7_addSegment_29 : decode cX7_addSegment 29 = .ok (.iastore, 1) := by decide +kernel
theorem dX7_addSegment_30 : decode cX7_addSegment 30 = .ok (.aload_n 0, 1) := by decide +kernel
theorem dX7_addSegment_31 : decode cX7_addSegment 31 = .ok (.dup, 1) := by decide +kernel
theorem dX7_addSegment_32 : decode cX7_addSegment 32 = .ok (.getfield 130, 3) := by decide +kernel
theorem dX7_addSegment_35 : decode cX7_addSegment 35 = .ok (.iconst 1, 1) := by decide +kernel
theorem dX7_addSegment_36 : decode cX7_addSegment 36 = .ok (.iadd, 1) := by decide +kernel
theorem dX7_addSegment_37 : decode cX7_addSegment 37 = .ok (.putfield 130, 3) := by decide +kernel
theorem dX7_addSegment_40 : decode cX7_addSegment 40 = .ok (.return_, 1) := by decide +kernel
theorem dX7_layNet_0 : decode cX7_layNet 0 = .ok (.iconst (-1), 1) := by decide +kernel
theorem dX7_layNet_1 : decode cX7_layNet 1 = .ok (.istore_n 3, 1) := by decide +kernel
theorem dX7_layNet_2 : decode cX7_layNet 2 = .ok (.iconst (-1), 1) := by decide +kernel
theorem dX7_layNet_3 : decode cX7_layNet 3 = .ok (.istore 4, 2) := by decide +kernel
theorem dX7_layNet_5 : decode cX7_layNet 5 = .ok (.iconst 0, 1) := by decide +kernel
theorem dX7_layNet_6 : decode cX7_layNet 6 = .ok (.istore 5, 2) := by decide +kernel
theorem dX7_layNet_8 : decode cX7_layNet 8 = .ok (.iload 5, 2) := by decide +kernel
theorem dX7_layNet_10 : decode cX7_layNet 10 = .ok (.aload_n 0, 1) := by decide +kernel
theorem dX7_layNet_11 : decode cX7_layNet 11 = .ok (.getfield 87, 3) := by decide +kernel
theorem dX7_layNet_14 : decode cX7_layNet 14 = .ok (.if_icmp .ge 54, 3) := by decide +kernel
theorem dX7_layNet_17 : decode cX7_layNet 17 = .ok (.aload_n 0, 1) := by decide +kernel
theorem dX7_layNet_18 : decode cX7_layNet 18 = .ok (.iload_n 1, 1) := by decide +kernel
theorem dX7_layNet_19 : decode cX7_layNet 19 = .ok (.iload 5, 2) := by decide +kernel
theorem dX7_layNet_21 : decode cX7_layNet 21 = .ok (.invokevirtual 133, 3) := by decide +kernel
theorem dX7_layNet_24 : decode cX7_layNet 24 = .ok (.ifCond .eq 38, 3) := by decide +kernel
theorem dX7_layNet_27 : decode cX7_layNet 27 = .ok (.iload_n 2, 1) := by decide +kernel
theorem dX7_layNet_28 : decode cX7_layNet 28 = .ok (.ifCond .eq 18, 3) := by decide +kernel
theorem dX7_layNet_31 : decode cX7_layNet 31 = .ok (.iload 4, 2) := by decide +kernel
theorem dX7_layNet_33 : decode cX7_layNet 33 = .ok (.iconst (-1), 1) := by decide +kernel
theorem dX7_layNet_34 : decode cX7_layNet 34 = .ok (.if_icmp .eq 12, 3) := by decide +kernel
theorem dX7_layNet_37 : decode cX7_layNet 37 = .ok (.aload_n 0, 1) := by decide +kernel
theorem dX7_layNet_38 : decode cX7_layNet 38 = .ok (.iload_n 1, 1) := by decide +kernel
theorem dX7_layNet_39 : decode cX7_layNet 39 = .ok (.iload 4, 2) := by decide +kernel
theorem dX7_layNet_41 : decode cX7_layNet 41 = .ok (.iload 5, 2) := by decide +kernel
theorem dX7_layNet_43 : decode cX7_layNet 43 = .ok (.invokevirtual 136, 3) := by decide +kernel
theorem dX7_layNet_46 : decode cX7_layNet 46 = .ok (.iload_n 3, 1) := by decide +kernel
theorem dX7_layNet_47 : decode cX7_layNet 47 = .ok (.iconst (-1), 1) := by decide +kernel
theorem dX7_layNet_48 : decode cX7_layNet 48 = .ok (.if_icmp .ne 8, 3) := by decide +kernel
theorem dX7_layNet_51 : decode cX7_layNet 51 = .ok (.iload 5, 2) := by decide +kernel
theorem dX7_layNet_53 : decode cX7_layNet 53 = .ok (.goto 4, 3) := by decide +kernel
theorem dX7_layNet_56 : decode cX7_layNet 56 = .ok (.iload_n 3, 1) := by decide +kernel
theorem dX7_layNet_57 : decode cX7_layNet 57 = .ok (.istore_n 3, 1) := by decide +kernel
theorem dX7_layNet_58 : decode cX7_layNet 58 = .ok (.iload 5, 2) := by decide +kernel
theorem dX7_layNet_60 : decode cX7_layNet 60 = .ok (.istore 4, 2) := by decide +kernel
theorem dX7_layNet_62 : decode cX7_layNet 62 = .ok (.iinc 5 1, 3) := by decide +kernel
theorem dX7_layNet_65 : decode cX7_layNet 65 = .ok (.goto (-57), 3) := by decide +kernel
theorem dX7_layNet_68 : decode cX7_layNet 68 = .ok (.iload_n 2, 1) := by decide +kernel
theorem dX7_layNet_69 : decode cX7_layNet 69 = .ok (.ifCond .ne 17, 3) := by decide +kernel
theorem dX7_layNet_72 : decode cX7_layNet 72 = .ok (.iload 4, 2) := by decide +kernel
theorem dX7_layNet_74 : decode cX7_layNet 74 = .ok (.iload_n 3, 1) := by decide +kernel
theorem dX7_layNet_75 : decode cX7_layNet 75 = .ok (.if_icmp .le 11, 3) := by decide +kernel
theorem dX7_layNet_78 : decode cX7_layNet 78 = .ok (.aload_n 0, 1) := by decide +kernel
theorem dX7_layNet_79 : decode cX7_layNet 79 = .ok (.iload_n 1, 1) := by decide +kernel
theorem dX7_layNet_80 : decode cX7_layNet 80 = .ok (.iload_n 3, 1) := by decide +kernel
theorem dX7_layNet_81 : decode cX7_layNet 81 = .ok (.iload 4, 2) := by decide +kernel
theorem dX7_layNet_83 : decode cX7_layNet 83 = .ok (.invokevirtual 136, 3) := by decide +kernel
theorem dX7_layNet_86 : decode cX7_layNet 86 = .ok (.return_, 1) := by decide +kernel
theorem dX7_isWithin_0 : decode cX7_isWithin 0 = .ok (.iload_n 2, 1) := by decide +kernel
theorem dX7_isWithin_1 : decode cX7_isWithin 1 = .ok (.aload_n 0, 1) := by decide +kernel
theorem dX7_isWithin_2 : decode cX7_isWithin 2 = .ok (.getfield 16, 3) := by decide +kernel
theorem dX7_isWithin_5 : decode cX7_isWithin 5 = .ok (.iload_n 1, 1) := by decide +kernel
theorem dX7_isWithin_6 : decode cX7_isWithin 6 = .ok (.iaload, 1) := by decide +kernel
theorem dX7_isWithin_7 : decode cX7_isWithin 7 = .ok (.aload_n 0, 1) := by decide +kernel
theorem dX7_isWithin_8 : decode cX7_isWithin 8 = .ok (.getfield 19, 3) := by decide +kernel
theorem dX7_isWithin_11 : decode cX7_isWithin 11 = .ok (.iload_n 1, 1) := by decide +kernel
theorem dX7_isWithin_12 : decode cX7_isWithin 12 = .ok (.iaload, 1) := by decide +kernel
theorem dX7_isWithin_13 : decode cX7_isWithin 13 = .ok (.invokestatic 47, 3) := by decide +kernel
theorem dX7_isWithin_16 : decode cX7_isWithin 16 = .ok (.ireturn, 1) := by decide +kernel
theorem dX7_touches_0 : decode cX7_touches 0 = .ok (.aload_n 0, 1) := by decide +kernel
theorem dX7_touches_1 : decode cX7_touches 1 = .ok (.iload_n 1, 1) := by decide +kernel
theorem dX7_touches_2 : decode cX7_touches 2 = .ok (.iload_n 2, 1) := by decide +kernel
theorem dX7_touches_3 : decode cX7_touches 3 = .ok (.invokevirtual 140, 3) := by decide +kernel
theorem dX7_touches_6 : decode cX7_touches 6 = .ok (.ifCond .eq 21, 3) := by decide +kernel
theorem dX7_touches_9 : decode cX7_touches 9 = .ok (.aload_n 0, 1) := by decide +kernel
theorem dX7_touches_10 : decode cX7_touches 10 = .ok (.aload_n 0, 1) := by decide +kernel
theorem dX7_touches_11 : decode cX7_touches 11 = .ok (.getfield 13, 3) := by decide +kernel
theorem dX7_touches_14 : decode cX7_touches 14 = .ok (.iload_n 1, 1) := by decide +kernel
theorem dX7_touches_15 : decode cX7_touches 15 = .ok (.iaload, 1) := by decide +kernel
theorem dX7_touches_16 : decode cX7_touches 16 = .ok (.iload_n 2, 1) := by decide +kernel
theorem dX7_touches_17 : decode cX7_touches 17 = .ok (.invokevirtual 133, 3) := by decide +kernel
theorem dX7_touches_20 : decode cX7_touches 20 = .ok (.ifCond .eq 7, 3) := by decide +kernel
theorem dX7_touches_23 : decode cX7_touches 23 = .ok (.iconst 1, 1) := by decide +kernel
theorem dX7_touches_24 : decode cX7_touches 24 = .ok (.goto 4, 3) := by decide +kernel
theorem dX7_touches_27 : decode cX7_touches 27 = .ok (.iconst 0, 1) := by decide +kernel
theorem dX7_touches_28 : decode cX7_touches 28 = .ok (.ireturn, 1) := by decide +kernel
theorem dX7_isAbove_0 : decode cX7_isAbove 0 = .ok (.iconst 0, 1) := by decide +kernel
theorem dX7_isAbove_1 : decode cX7_isAbove 1 = .ok (.istore_n 3, 1) := by decide +kernel
theorem dX7_isAbove_2 : decode cX7_isAbove 2 = .ok (.iconst 0, 1) := by decide +kernel
theorem dX7_isAbove_3 : decode cX7_isAbove 3 = .ok (.istore 4, 2) := by decide +kernel
theorem dX7_isAbove_5 : decode cX7_isAbove 5 = .ok (.iload 4, 2) := by decide +kernel
theorem dX7_isAbove_7 : decode cX7_isAbove 7 = .ok (.aload_n 0, 1) := by decide +kernel
theorem dX7_isAbove_8 : decode cX7_isAbove 8 = .ok (.getfield 87, 3) := by decide +kernel
theorem dX7_isAbove_11 : decode cX7_isAbove 11 = .ok (.if_icmp .ge 81, 3) := by decide +kernel
theorem dX7_isAbove_14 : decode cX7_isAbove 14 = .ok (.aload_n 0, 1) := by decide +kernel
theorem dX7_isAbove_15 : decode cX7_isAbove 15 = .ok (.iload 4, 2) := by decide +kernel
theorem dX7_isAbove_17 : decode cX7_isAbove 17 = .ok (.invokevirtual 124, 3) := by decide +kernel
theorem dX7_isAbove_20 : decode cX7_isAbove 20 = .ok (.aload_n 0, 1) := by decide +kernel
theorem dX7_isAbove_21 : decode cX7_isAbove 21 = .ok (.getfield 13, 3) := by decide +kernel
theorem dX7_isAbove_24 : decode cX7_isAbove 24 = .ok (.iload_n 1, 1) := by decide +kernel
theorem dX7_isAbove_25 : decode cX7_isAbove 25 = .ok (.iaload, 1) := by decide +kernel
theorem dX7_isAbove_26 : decode cX7_isAbove 26 = .ok (.if_icmp .ne 22, 3) := by decide +kernel
theorem dX7_isAbove_29 : decode cX7_isAbove 29 = .ok (.aload_n 0, 1) := by decide +kernel
theorem dX7_isAbove_30 : decode cX7_isAbove 30 = .ok (.iload 4, 2) := by decide +kernel
theorem dX7_isAbove_32 : decode cX7_isAbove 32 = .ok (.invokevirtual 127, 3) := by decide +kernel
theorem dX7_isAbove_35 : decode cX7_isAbove 35 = .ok (.aload_n 0, 1) := by decide +kernel
theorem dX7_isAbove_36 : decode cX7_isAbove 36 = .ok (.getfield 13, 3) := by decide +kernel
theorem dX7_isAbove_39 : decode cX7_isAbove 39 = .ok (.iload_n 2, 1) := by decide +kernel
theorem dX7_isAbove_40 : decode cX7_isAbove 40 = .ok (.iaload, 1) := by decide +kernel
theorem dX7_isAbove_41 : decode cX7_isAbove 41 = .ok (.if_icmp .ne 7, 3) := by decide +kernel
theorem dX7_isAbove_44 : decode cX7_isAbove 44 = .ok (.iconst 1, 1) := by decide +kernel
theorem dX7_isAbove_45 : decode cX7_isAbove 45 = .ok (.goto 4, 3) := by decide +kernel
theorem dX7_isAbove_48 : decode cX7_isAbove 48 = .ok (.iconst 0, 1) := by decide +kernel
theorem dX7_isAbove_49 : decode cX7_isAbove 49 = .ok (.istore 5, 2) := by decide +kernel
theorem dX7_isAbove_51 : decode cX7_isAbove 51 = .ok (.iload_n 3, 1) := by decide +kernel
theorem dX7_isAbove_52 : decode cX7_isAbove 52 = .ok (.ifCond .ne 28, 3) := by decide +kernel
theorem dX7_isAbove_55 : decode cX7_isAbove 55 = .ok (.iload 5, 2) := by decide +kernel
theorem dX7_isAbove_57 : decode cX7_isAbove 57 = .ok (.ifCond .eq 27, 3) := by decide +kernel
theorem dX7_isAbove_60 : decode cX7_isAbove 60 = .ok (.aload_n 0, 1) := by decide +kernel
theorem dX7_isAbove_61 : decode cX7_isAbove 61 = .ok (.iload_n 1, 1) := by decide +kernel
theorem dX7_isAbove_62 : decode cX7_isAbove 62 = .ok (.iload 4, 2) := by decide +kernel
theorem dX7_isAbove_64 : decode cX7_isAbove 64 = .ok (.invokevirtual 143, 3) := by decide +kernel
theorem dX7_isAbove_67 : decode cX7_isAbove 67 = .ok (.ifCond .eq 17, 3) := by decide +kernel
theorem dX7_isAbove_70 : decode cX7_isAbove 70 = .ok (.aload_n 0, 1) := by decide +kernel
theorem dX7_isAbove_71 : decode cX7_isAbove 71 = .ok (.iload_n 2, 1) := by decide +kernel
theorem dX7_isAbove_72 : decode cX7_isAbove 72 = .ok (.iload 4, 2) := by decide +kernel
theorem dX7_isAbove_74 : decode cX7_isAbove 74 = .ok (.invokevirtual 143, 3) := by decide +kernel
theorem dX7_isAbove_77 : decode cX7_isAbove 77 = .ok (.ifCond .eq 7, 3) := by decide +kernel
theorem dX7_isAbove_80 : decode cX7_isAbove 80 = .ok (.iconst 1, 1) := by decide +kernel
theorem dX7_isAbove_81 : decode cX7_isAbove 81 = .ok (.goto 4, 3) := by decide +kernel
theorem dX7_isAbove_84 : decode cX7_isAbove 84 = .ok (.iconst 0, 1) := by decide +kernel
theorem dX7_isAbove_85 : decode cX7_isAbove 85 = .ok (.istore_n 3, 1) := by decide +kernel
theorem dX7_isAbove_86 : decode cX7_isAbove 86 = .ok (.iinc 4 1, 3) := by decide +kernel
theorem dX7_isAbove_89 : decode cX7_isAbove 89 = .ok (.goto (-84), 3) := by decide +kernel
theorem dX7_isAbove_92 : decode cX7_isAbove 92 = .ok (.iload_n 3, 1) := by decide +kernel
theorem dX7_isAbove_93 : decode cX7_isAbove 93 = .ok (.ifCond .eq 22, 3) := by decide +kernel
theorem dX7_isAbove_96 : decode cX7_isAbove 96 = .ok (.aload_n 0, 1) := by decide +kernel
theorem dX7_isAbove_97 : decode cX7_isAbove 97 = .ok (.getfield 13, 3) := by decide +kernel
theorem dX7_isAbove_100 : decode cX7_isAbove 100 = .ok (.iload_n 1, 1) := by decide +kernel
theorem dX7_isAbove_101 : decode cX7_isAbove 101 = .ok (.iaload, 1) := by decide +kernel
theorem dX7_isAbove_102 : decode cX7_isAbove 102 = .ok (.aload_n 0, 1) := by decide +kernel
theorem dX7_isAbove_103 : decode cX7_isAbove 103 = .ok (.getfield 13, 3) := by decide +kernel
theorem dX7_isAbove_106 : decode cX7_isAbove 106 = .ok (.iload_n 2, 1) := by decide +kernel
theorem dX7_isAbove_107 : decode cX7_isAbove 107 = .ok (.iaload, 1) := by decide +kernel
theorem dX7_isAbove_108 : decode cX7_isAbove 108 = .ok (.if_icmp .eq 7, 3) := by decide +kernel
theorem dX7_isAbove_111 : decode cX7_isAbove 111 = .ok (.iconst 1, 1) := by decide +kernel
theorem dX7_isAbove_112 : decode cX7_isAbove 112 = .ok (.goto 4, 3) := by decide +kernel
theorem dX7_isAbove_115 : decode cX7_isAbove 115 = .ok (.iconst 0, 1) := by decide +kernel
theorem dX7_isAbove_116 : decode cX7_isAbove 116 = .ok (.ireturn, 1) := by decide +kernel
theorem dX7_laySegments_0 : decode cX7_laySegments 0 = .ok (.aload_n 0, 1) := by decide +kernel
theorem dX7_laySegments_1 : decode cX7_laySegments 1 = .ok (.iconst 0, 1) := by decide +kernel
theorem dX7_laySegments_2 : decode cX7_laySegments 2 = .ok (.putfield 130, 3) := by decide +kernel
theorem dX7_laySegments_5 : decode cX7_laySegments 5 = .ok (.iconst 0, 1) := by decide +kernel
theorem dX7_laySegments_6 : decode cX7_laySegments 6 = .ok (.istore_n 2, 1) := by decide +kernel
theorem dX7_laySegments_7 : decode cX7_laySegments 7 = .ok (.iload_n 2, 1) := by decide +kernel
theorem dX7_laySegments_8 : decode cX7_laySegments 8 = .ok (.bipush 6, 2) := by decide +kernel
theorem dX7_laySegments_10 : decode cX7_laySegments 10 = .ok (.if_icmp .ge 19, 3) := by decide +kernel
theorem dX7_laySegments_13 : decode cX7_laySegments 13 = .ok (.aload_n 0, 1) := by decide +kernel
theorem dX7_laySegments_14 : decode cX7_laySegments 14 = .ok (.iload_n 2, 1) := by decide +kernel
theorem dX7_laySegments_15 : decode cX7_laySegments 15 = .ok (.iload_n 1, 1) := by decide +kernel
theorem dX7_laySegments_16 : decode cX7_laySegments 16 = .ok (.iload_n 2, 1) := by decide +kernel
theorem dX7_laySegments_17 : decode cX7_laySegments 17 = .ok (.invokestatic 43, 3) := by decide +kernel
theorem dX7_laySegments_20 : decode cX7_laySegments 20 = .ok (.invokevirtual 146, 3) := by decide +kernel
theorem dX7_laySegments_23 : decode cX7_laySegments 23 = .ok (.iinc 2 1, 3) := by decide +kernel
theorem dX7_laySegments_26 : decode cX7_laySegments 26 = .ok (.goto (-19), 3) := by decide +kernel
theorem dX7_laySegments_29 : decode cX7_laySegments 29 = .ok (.iconst 0, 1) := by decide +kernel
theorem dX7_laySegments_30 : decode cX7_laySegments 30 = .ok (.istore_n 2, 1) := by decide +kernel
theorem dX7_laySegments_31 : decode cX7_laySegments 31 = .ok (.iload_n 2, 1) := by decide +kernel
theorem dX7_laySegments_32 : decode cX7_laySegments 32 = .ok (.aload_n 0, 1) := by decide +kernel
theorem dX7_laySegments_33 : decode cX7_laySegments 33 = .ok (.getfield 130, 3) := by decide +kernel
theorem dX7_laySegments_36 : decode cX7_laySegments 36 = .ok (.if_icmp .ge 69, 3) := by decide +kernel
theorem dX7_laySegments_39 : decode cX7_laySegments 39 = .ok (.aload_n 0, 1) := by decide +kernel
theorem dX7_laySegments_40 : decode cX7_laySegments 40 = .ok (.getfield 25, 3) := by decide +kernel
theorem dX7_laySegments_43 : decode cX7_laySegments 43 = .ok (.iload_n 2, 1) := by decide +kernel
theorem dX7_laySegments_44 : decode cX7_laySegments 44 = .ok (.iconst 0, 1) := by decide +kernel
theorem dX7_laySegments_45 : decode cX7_laySegments 45 = .ok (.iastore, 1) := by decide +kernel
theorem dX7_laySegments_46 : decode cX7_laySegments 46 = .ok (.iconst 0, 1) := by decide +kernel
theorem dX7_laySegments_47 : decode cX7_laySegments 47 = .ok (.istore_n 3, 1) := by decide +kernel
theorem dX7_laySegments_48 : decode cX7_laySegments 48 = .ok (.iload_n 3, 1) := by decide +kernel
theorem dX7_laySegments_49 : decode cX7_laySegments 49 = .ok (.aload_n 0, 1) := by decide +kernel
theorem dX7_laySegments_50 : decode cX7_laySegments 50 = .ok (.getfield 130, 3) := by decide +kernel
theorem dX7_laySegments_53 : decode cX7_laySegments 53 = .ok (.if_icmp .ge 34, 3) := by decide +kernel
theorem dX7_laySegments_56 : decode cX7_laySegments 56 = .ok (.aload_n 0, 1) := by decide +kernel
theorem dX7_laySegments_57 : decode cX7_laySegments 57 = .ok (.getfield 25, 3) := by decide +kernel
theorem dX7_laySegments_60 : decode cX7_laySegments 60 = .ok (.iload_n 2, 1) := by decide +kernel
theorem dX7_laySegments_61 : decode cX7_laySegments 61 = .ok (.dup2, 1) := by decide +kernel
theorem dX7_laySegments_62 : decode cX7_laySegments 62 = .ok (.iaload, 1) := by decide +kernel
theorem dX7_laySegments_63 : decode cX7_laySegments 63 = .ok (.aload_n 0, 1) := by decide +kernel
theorem dX7_laySegments_64 : decode cX7_laySegments 64 = .ok (.iload_n 2, 1) := by decide +kernel
theorem dX7_laySegments_65 : decode cX7_laySegments 65 = .ok (.iload_n 3, 1) := by decide +kernel
theorem dX7_laySegments_66 : decode cX7_laySegments 66 = .ok (.invokevirtual 150, 3) := by decide +kernel
theorem dX7_laySegments_69 : decode cX7_laySegments 69 = .ok (.ifCond .eq 9, 3) := by decide +kernel
theorem dX7_laySegments_72 : decode cX7_laySegments 72 = .ok (.iconst 1, 1) := by decide +kernel
theorem dX7_laySegments_73 : decode cX7_laySegments 73 = .ok (.iload_n 3, 1) := by decide +kernel
theorem dX7_laySegments_74 : decode cX7_laySegments 74 = .ok (.ishl, 1) := by decide +kernel
theorem dX7_laySegments_75 : decode cX7_laySegments 75 = .ok (.goto 4, 3) := by decide +kernel
theorem dX7_laySegments_78 : decode cX7_laySegments 78 = .ok (.iconst 0, 1) := by decide +kernel
theorem dX7_laySegments_79 : decode cX7_laySegments 79 = .ok (.ior, 1) := by decide +kernel
theorem dX7_laySegments_80 : decode cX7_laySegments 80 = .ok (.iastore, 1) := by decide +kernel
theorem dX7_laySegments_81 : decode cX7_laySegments 81 = .ok (.iinc 3 1, 3) := by decide +kernel
theorem dX7_laySegments_84 : decode cX7_laySegments 84 = .ok (.goto (-36), 3) := by decide +kernel
theorem dX7_laySegments_87 : decode cX7_laySegments 87 = .ok (.aload_n 0, 1) := by decide +kernel
theorem dX7_laySegments_88 : decode cX7_laySegments 88 = .ok (.getfield 28, 3) := by decide +kernel
theorem dX7_laySegments_91 : decode cX7_laySegments 91 = .ok (.iload_n 2, 1) := by decide +kernel
theorem dX7_laySegments_92 : decode cX7_laySegments 92 = .ok (.aload_n 0, 1) := by decide +kernel
theorem dX7_laySegments_93 : decode cX7_laySegments 93 = .ok (.getfield 25, 3) := by decide +kernel
theorem dX7_laySegments_96 : decode cX7_laySegments 96 = .ok (.iload_n 2, 1) := by decide +kernel
theorem dX7_laySegments_97 : decode cX7_laySegments 97 = .ok (.iaload, 1) := by decide +kernel
theorem dX7_laySegments_98 : decode cX7_laySegments 98 = .ok (.iastore, 1) := by decide +kernel
theorem dX7_laySegments_99 : decode cX7_laySegments 99 = .ok (.iinc 2 1, 3) := by decide +kernel
theorem dX7_laySegments_102 : decode cX7_laySegments 102 = .ok (.goto (-71), 3) := by decide +kernel
theorem dX7_laySegments_105 : decode cX7_laySegments 105 = .ok (.iconst 0, 1) := by decide +kernel
theorem dX7_laySegments_106 : decode cX7_laySegments 106 = .ok (.istore_n 2, 1) := by decide +kernel
theorem dX7_laySegments_107 : decode cX7_laySegments 107 = .ok (.iload_n 2, 1) := by decide +kernel
theorem dX7_laySegments_108 : decode cX7_laySegments 108 = .ok (.aload_n 0, 1) := by decide +kernel
theorem dX7_laySegments_109 : decode cX7_laySegments 109 = .ok (.getfield 130, 3) := by decide +kernel
theorem dX7_laySegments_112 : decode cX7_laySegments 112 = .ok (.if_icmp .ge 57, 3) := by decide +kernel
theorem dX7_laySegments_115 : decode cX7_laySegments 115 = .ok (.iconst 0, 1) := by decide +kernel
theorem dX7_laySegments_116 : decode cX7_laySegments 116 = .ok (.istore_n 3, 1) := by decide +kernel
theorem dX7_laySegments_117 : decode cX7_laySegments 117 = .ok (.iload_n 3, 1) := by decide +kernel
theorem dX7_laySegments_118 : decode cX7_laySegments 118 = .ok (.aload_n 0, 1) := by decide +kernel
theorem dX7_laySegments_119 : decode cX7_laySegments 119 = .ok (.getfield 130, 3) := by decide +kernel
theorem dX7_laySegments_122 : decode cX7_laySegments 122 = .ok (.if_icmp .ge 41, 3) := by decide +kernel
theorem dX7_laySegments_125 : decode cX7_laySegments 125 = .ok (.aload_n 0, 1) := by decide +kernel
theorem dX7_laySegments_126 : decode cX7_laySegments 126 = .ok (.getfield 28, 3) := by decide +kernel
theorem dX7_laySegments_129 : decode cX7_laySegments 129 = .ok (.iload_n 3, 1) := by decide +kernel
theorem dX7_laySegments_130 : decode cX7_laySegments 130 = .ok (.dup2, 1) := by decide +kernel
theorem dX7_laySegments_131 : decode cX7_laySegments 131 = .ok (.iaload, 1) := by decide +kernel
theorem dX7_laySegments_132 : decode cX7_laySegments 132 = .ok (.aload_n 0, 1) := by decide +kernel
theorem dX7_laySegments_133 : decode cX7_laySegments 133 = .ok (.getfield 28, 3) := by decide +kernel
theorem dX7_laySegments_136 : decode cX7_laySegments 136 = .ok (.iload_n 3, 1) := by decide +kernel
theorem dX7_laySegments_137 : decode cX7_laySegments 137 = .ok (.iaload, 1) := by decide +kernel
theorem dX7_laySegments_138 : decode cX7_laySegments 138 = .ok (.iload_n 2, 1) := by decide +kernel
theorem dX7_laySegments_139 : decode cX7_laySegments 139 = .ok (.invokestatic 43, 3) := by decide +kernel
theorem dX7_laySegments_142 : decode cX7_laySegments 142 = .ok (.ifCond .eq 12, 3) := by decide +kernel
theorem dX7_laySegments_145 : decode cX7_laySegments 145 = .ok (.aload_n 0, 1) := by decide +kernel
theorem dX7_laySegments_146 : decode cX7_laySegments 146 = .ok (.getfield 28, 3) := by decide +kernel
theorem dX7_laySegments_149 : decode cX7_laySegments 149 = .ok (.iload_n 2, 1) := by decide +kernel
theorem dX7_laySegments_150 : decode cX7_laySegments 150 = .ok (.iaload, 1) := by decide +kernel
theorem dX7_laySegments_151 : decode cX7_laySegments 151 = .ok (.goto 4, 3) := by decide +kernel
theorem dX7_laySegments_154 : decode cX7_laySegments 154 = .ok (.iconst 0, 1) := by decide +kernel
theorem dX7_laySegments_155 : decode cX7_laySegments 155 = .ok (.ior, 1) := by decide +kernel
theorem dX7_laySegments_156 : decode cX7_laySegments 156 = .ok (.iastore, 1) := by decide +kernel
theorem dX7_laySegments_157 : decode cX7_laySegments 157 = .ok (.iinc 3 1, 3) := by decide +kernel
theorem dX7_laySegments_160 : decode cX7_laySegments 160 = .ok (.goto (-43), 3) := by decide +kernel
theorem dX7_laySegments_163 : decode cX7_laySegments 163 = .ok (.iinc 2 1, 3) := by decide +kernel
theorem dX7_laySegments_166 : decode cX7_laySegments 166 = .ok (.goto (-59), 3) := by decide +kernel
theorem dX7_laySegments_169 : decode cX7_laySegments 169 = .ok (.return_, 1) := by decide +kernel
theorem dX7_isRing_0 : decode cX7_isRing 0 = .ok (.iconst 0, 1) := by decide +kernel
theorem dX7_isRing_1 : decode cX7_isRing 1 = .ok (.istore_n 1, 1) := by decide +kernel
theorem dX7_isRing_2 : decode cX7_isRing 2 = .ok (.iconst 0, 1) := by decide +kernel
theorem dX7_isRing_3 : decode cX7_isRing 3 = .ok (.istore_n 2, 1) := by decide +kernel
theorem dX7_isRing_4 : decode cX7_isRing 4 = .ok (.iload_n 2, 1) := by decide +kernel
theorem dX7_isRing_5 : decode cX7_isRing 5 = .ok (.aload_n 0, 1) := by decide +kernel
theorem dX7_isRing_6 : decode cX7_isRing 6 = .ok (.getfield 130, 3) := by decide +kernel
theorem dX7_isRing_9 : decode cX7_isRing 9 = .ok (.if_icmp .ge 32, 3) := by decide +kernel
theorem dX7_isRing_12 : decode cX7_isRing 12 = .ok (.iload_n 1, 1) := by decide +kernel
theorem dX7_isRing_13 : decode cX7_isRing 13 = .ok (.ifCond .ne 16, 3) := by decide +kernel
theorem dX7_isRing_16 : decode cX7_isRing 16 = .ok (.aload_n 0, 1) := by decide +kernel
theorem dX7_isRing_17 : decode cX7_isRing 17 = .ok (.getfield 28, 3) := by decide +kernel
theorem dX7_isRing_20 : decode cX7_isRing 20 = .ok (.iload_n 2, 1) := by decide +kernel
theorem dX7_isRing_21 : decode cX7_isRing 21 = .ok (.iaload, 1) := by decide +kernel
theorem dX7_isRing_22 : decode cX7_isRing 22 = .ok (.iload_n 2, 1) := by decide +kernel
theorem dX7_isRing_23 : decode cX7_isRing 23 = .ok (.invokestatic 43, 3) := by decide +kernel
theorem dX7_isRing_26 : decode cX7_isRing 26 = .ok (.ifCond .eq 7, 3) := by decide +kernel
theorem dX7_isRing_29 : decode cX7_isRing 29 = .ok (.iconst 1, 1) := by decide +kernel
theorem dX7_isRing_30 : decode cX7_isRing 30 = .ok (.goto 4, 3) := by decide +kernel
theorem dX7_isRing_33 : decode cX7_isRing 33 = .ok (.iconst 0, 1) := by decide +kernel
theorem dX7_isRing_34 : decode cX7_isRing 34 = .ok (.istore_n 1, 1) := by decide +kernel
theorem dX7_isRing_35 : decode cX7_isRing 35 = .ok (.iinc 2 1, 3) := by decide +kernel
theorem dX7_isRing_38 : decode cX7_isRing 38 = .ok (.goto (-34), 3) := by decide +kernel
theorem dX7_isRing_41 : decode cX7_isRing 41 = .ok (.iload_n 1, 1) := by decide +kernel
theorem dX7_isRing_42 : decode cX7_isRing 42 = .ok (.ireturn, 1) := by decide +kernel
theorem dX7_layBack_0 : decode cX7_layBack 0 = .ok (.aload_n 0, 1) := by decide +kernel
theorem dX7_layBack_1 : decode cX7_layBack 1 = .ok (.getfield 37, 3) := by decide +kernel
theorem dX7_layBack_4 : decode cX7_layBack 4 = .ok (.iconst 0, 1) := by decide +kernel
theorem dX7_layBack_5 : decode cX7_layBack 5 = .ok (.iconst 1, 1) := by decide +kernel
theorem dX7_layBack_6 : decode cX7_layBack 6 = .ok (.iload_n 1, 1) := by decide +kernel
theorem dX7_layBack_7 : decode cX7_layBack 7 = .ok (.ishl, 1) := by decide +kernel
theorem dX7_layBack_8 : decode cX7_layBack 8 = .ok (.iastore, 1) := by decide +kernel
theorem dX7_layBack_9 : decode cX7_layBack 9 = .ok (.iconst 1, 1) := by decide +kernel
theorem dX7_layBack_10 : decode cX7_layBack 10 = .ok (.istore_n 3, 1) := by decide +kernel
theorem dX7_layBack_11 : decode cX7_layBack 11 = .ok (.iload_n 3, 1) := by decide +kernel
theorem dX7_layBack_12 : decode cX7_layBack 12 = .ok (.iload_n 2, 1) := by decide +kernel
theorem dX7_layBack_13 : decode cX7_layBack 13 = .ok (.if_icmp .gt 93, 3) := by decide +kernel
theorem dX7_layBack_16 : decode cX7_layBack 16 = .ok (.aload_n 0, 1) := by decide +kernel
theorem dX7_layBack_17 : decode cX7_layBack 17 = .ok (.getfield 37, 3) := by decide +kernel
theorem dX7_layBack_20 : decode cX7_layBack 20 = .ok (.iload_n 3, 1) := by decide +kernel
theorem dX7_layBack_21 : decode cX7_layBack 21 = .ok (.iconst 0, 1) := by decide +kernel
theorem dX7_layBack_22 : decode cX7_layBack 22 = .ok (.iastore, 1) := by decide +kernel
theorem dX7_layBack_23 : decode cX7_layBack 23 = .ok (.iload_n 1, 1) := by decide +kernel
theorem dX7_layBack_24 : decode cX7_layBack 24 = .ok (.istore 4, 2) := by decide +kernel
theorem dX7_layBack_26 : decode cX7_layBack 26 = .ok (.iload 4, 2) := by decide +kernel
theorem dX7_layBack_28 : decode cX7_layBack 28 = .ok (.aload_n 0, 1) := by decide +kernel
theorem dX7_layBack_29 : decode cX7_layBack 29 = .ok (.getfield 130, 3) := by decide +kernel
theorem dX7_layBack_32 : decode cX7_layBack 32 = .ok (.if_icmp .ge 68, 3) := by decide +kernel
theorem dX7_layBack_35 : decode cX7_layBack 35 = .ok (.aload_n 0, 1) := by decide +kernel
theorem dX7_layBack_36 : decode cX7_layBack 36 = .ok (.getfield 25, 3) := by decide +kernel
theorem dX7_layBack_39 : decode cX7_layBack 39 = .ok (.iload 4, 2) := by decide +kernel
theorem dX7_layBack_41 : decode cX7_layBack 41 = .ok (.iaload, 1) := by decide +kernel
theorem dX7_layBack_42 : decode cX7_layBack 42 = .ok (.aload_n 0, 1) := by decide +kernel
theorem dX7_layBack_43 : decode cX7_layBack 43 = .ok (.getfield 37, 3) := by decide +kernel
theorem dX7_layBack_46 : decode cX7_layBack 46 = .ok (.iload_n 3, 1) := by decide +kernel
theorem dX7_layBack_47 : decode cX7_layBack 47 = .ok (.iconst 1, 1) := by decide +kernel
theorem dX7_layBack_48 : decode cX7_layBack 48 = .ok (.isub, 1) := by decide +kernel
theorem dX7_layBack_49 : decode cX7_layBack 49 = .ok (.iaload, 1) := by decide +kernel
theorem dX7_layBack_50 : decode cX7_layBack 50 = .ok (.iand, 1) := by decide +kernel
theorem dX7_layBack_51 : decode cX7_layBack 51 = .ok (.ifCond .eq 18, 3) := by decide +kernel
theorem dX7_layBack_54 : decode cX7_layBack 54 = .ok (.iload 4, 2) := by decide +kernel
theorem dX7_layBack_56 : decode cX7_layBack 56 = .ok (.iload_n 1, 1) := by decide +kernel
theorem dX7_layBack_57 : decode cX7_layBack 57 = .ok (.if_icmp .gt 8, 3) := by decide +kernel
theorem dX7_layBack_60 : decode cX7_layBack 60 = .ok (.iload_n 3, 1) := by decide +kernel
theorem dX7_layBack_61 : decode cX7_layBack 61 = .ok (.iload_n 2, 1) := by decide +kernel
theorem dX7_layBack_62 : decode cX7_layBack 62 = .ok (.if_icmp .ne 7, 3) := by decide +kernel
theorem dX7_layBack_65 : decode cX7_layBack 65 = .ok (.iconst 1, 1) := by decide +kernel
theorem dX7_layBack_66 : decode cX7_layBack 66 = .ok (.goto 4, 3) := by decide +kernel
theorem dX7_layBack_69 : decode cX7_layBack 69 = .ok (.iconst 0, 1) := by decide +kernel
theorem dX7_layBack_70 : decode cX7_layBack 70 = .ok (.istore 5, 2) := by decide +kernel
theorem dX7_layBack_72 : decode cX7_layBack 72 = .ok (.aload_n 0, 1) := by decide +kernel
theorem dX7_layBack_73 : decode cX7_layBack 73 = .ok (.getfield 37, 3) := by decide +kernel
theorem dX7_layBack_76 : decode cX7_layBack 76 = .ok (.iload_n 3, 1) := by decide +kernel
theorem dX7_layBack_77 : decode cX7_layBack 77 = .ok (.dup2, 1) := by decide +kernel
theorem dX7_layBack_78 : decode cX7_layBack 78 = .ok (.iaload, 1) := by decide +kernel
theorem dX7_layBack_79 : decode cX7_layBack 79 = .ok (.iload 5, 2) := by decide +kernel
theorem dX7_layBack_81 : decode cX7_layBack 81 = .ok (.ifCond .eq 10, 3) := by decide +kernel
theorem dX7_layBack_84 : decode cX7_layBack 84 = .ok (.iconst 1, 1) := by decide +kernel
theorem dX7_layBack_85 : decode cX7_layBack 85 = .ok (.iload 4, 2) := by decide +kernel
theorem dX7_layBack_87 : decode cX7_layBack 87 = .ok (.ishl, 1) := by decide +kernel
theorem dX7_layBack_88 : decode cX7_layBack 88 = .ok (.goto 4, 3) := by decide +kernel
theorem dX7_layBack_91 : decode cX7_layBack 91 = .ok (.iconst 0, 1) := by decide +kernel
theorem dX7_layBack_92 : decode cX7_layBack 92 = .ok (.ior, 1) := by decide +kernel
theorem dX7_layBack_93 : decode cX7_layBack 93 = .ok (.iastore, 1) := by decide +kernel
theorem dX7_layBack_94 : decode cX7_layBack 94 = .ok (.iinc 4 1, 3) := by decide +kernel
theorem dX7_layBack_97 : decode cX7_layBack 97 = .ok (.goto (-71), 3) := by decide +kernel
theorem dX7_layBack_100 : decode cX7_layBack 100 = .ok (.iinc 3 1, 3) := by decide +kernel
theorem dX7_layBack_103 : decode cX7_layBack 103 = .ok (.goto (-92), 3) := by decide +kernel
theorem dX7_layBack_106 : decode cX7_layBack 106 = .ok (.aload_n 0, 1) := by decide +kernel
theorem dX7_layBack_107 : decode cX7_layBack 107 = .ok (.getfield 37, 3) := by decide +kernel
theorem dX7_layBack_110 : decode cX7_layBack 110 = .ok (.iload_n 2, 1) := by decide +kernel
theorem dX7_layBack_111 : decode cX7_layBack 111 = .ok (.iaload, 1) := by decide +kernel
theorem dX7_layBack_112 : decode cX7_layBack 112 = .ok (.iload_n 1, 1) := by decide +kernel
theorem dX7_layBack_113 : decode cX7_layBack 113 = .ok (.invokestatic 43, 3) := by decide +kernel
theorem dX7_layBack_116 : decode cX7_layBack 116 = .ok (.ireturn, 1) := by decide +kernel
theorem dX7_findRing_0 : decode cX7_findRing 0 = .ok (.iconst 0, 1) := by decide +kernel
theorem dX7_findRing_1 : decode cX7_findRing 1 = .ok (.istore_n 2, 1) := by decide +kernel
theorem dX7_findRing_2 : decode cX7_findRing 2 = .ok (.iload_n 2, 1) := by decide +kernel
theorem dX7_findRing_3 : decode cX7_findRing 3 = .ok (.aload_n 0, 1) := by decide +kernel
theorem dX7_findRing_4 : decode cX7_findRing 4 = .ok (.getfield 130, 3) := by decide +kernel
theorem dX7_findRing_7 : decode cX7_findRing 7 = .ok (.if_icmp .ge 76, 3) := by decide +kernel
theorem dX7_findRing_10 : decode cX7_findRing 10 = .ok (.aload_n 0, 1) := by decide +kernel
theorem dX7_findRing_11 : decode cX7_findRing 11 = .ok (.iload_n 2, 1) := by decide +kernel
theorem dX7_findRing_12 : decode cX7_findRing 12 = .ok (.iload_n 1, 1) := by decide +kernel
theorem dX7_findRing_13 : decode cX7_findRing 13 = .ok (.invokevirtual 153, 3) := by decide +kernel
theorem dX7_findRing_16 : decode cX7_findRing 16 = .ok (.ifCond .eq 61, 3) := by decide +kernel
theorem dX7_findRing_19 : decode cX7_findRing 19 = .ok (.aload_n 0, 1) := by decide +kernel
theorem dX7_findRing_20 : decode cX7_findRing 20 = .ok (.iload_n 1, 1) := by decide +kernel
theorem dX7_findRing_21 : decode cX7_findRing 21 = .ok (.putfield 156, 3) := by decide +kernel
theorem dX7_findRing_24 : decode cX7_findRing 24 = .ok (.aload_n 0, 1) := by decide +kernel
theorem dX7_findRing_25 : decode cX7_findRing 25 = .ok (.getfield 31, 3) := by decide +kernel
theorem dX7_findRing_28 : decode cX7_findRing 28 = .ok (.iconst 0, 1) := by decide +kernel
theorem dX7_findRing_29 : decode cX7_findRing 29 = .ok (.iload_n 2, 1) := by decide +kernel
theorem dX7_findRing_30 : decode cX7_findRing 30 = .ok (.iastore, 1) := by decide +kernel
theorem dX7_findRing_31 : decode cX7_findRing 31 = .ok (.iconst 1, 1) := by decide +kernel
theorem dX7_findRing_32 : decode cX7_findRing 32 = .ok (.istore_n 3, 1) := by decide +kernel
theorem dX7_findRing_33 : decode cX7_findRing 33 = .ok (.iload_n 3, 1) := by decide +kernel
theorem dX7_findRing_34 : decode cX7_findRing 34 = .ok (.iload_n 1, 1) := by decide +kernel
theorem dX7_findRing_35 : decode cX7_findRing 35 = .ok (.if_icmp .ge 40, 3) := by decide +kernel
theorem dX7_findRing_38 : decode cX7_findRing 38 = .ok (.aload_n 0, 1) := by decide +kernel
theorem dX7_findRing_39 : decode cX7_findRing 39 = .ok (.getfield 31, 3) := by decide +kernel
theorem dX7_findRing_42 : decode cX7_findRing 42 = .ok (.iload_n 3, 1) := by decide +kernel
theorem dX7_findRing_43 : decode cX7_findRing 43 = .ok (.aload_n 0, 1) := by decide +kernel
theorem dX7_findRing_44 : decode cX7_findRing 44 = .ok (.getfield 25, 3) := by decide +kernel
theorem dX7_findRing_47 : decode cX7_findRing 47 = .ok (.aload_n 0, 1) := by decide +kernel
theorem dX7_findRing_48 : decode cX7_findRing 48 = .ok (.getfield 31, 3) := by decide +kernel
theorem dX7_findRing_51 : decode cX7_findRing 51 = .ok (.iload_n 3, 1) := by decide +kernel
theorem dX7_findRing_52 : decode cX7_findRing 52 = .ok (.iconst 1, 1) := by decide +kernel
theorem dX7_findRing_53 : decode cX7_findRing 53 = .ok (.isub, 1) := by decide +kernel
theorem dX7_findRing_54 : decode cX7_findRing 54 = .ok (.iaload, 1) := by decide +kernel
theorem dX7_findRing_55 : decode cX7_findRing 55 = .ok (.iaload, 1) := by decide +kernel
theorem dX7_findRing_56 : decode cX7_findRing 56 = .ok (.aload_n 0, 1) := by decide +kernel
theorem dX7_findRing_57 : decode cX7_findRing 57 = .ok (.getfield 37, 3) := by decide +kernel
theorem dX7_findRing_60 : decode cX7_findRing 60 = .ok (.iload_n 1, 1) := by decide +kernel
theorem dX7_findRing_61 : decode cX7_findRing 61 = .ok (.iload_n 3, 1) := by decide +kernel
theorem dX7_findRing_62 : decode cX7_findRing 62 = .ok (.isub, 1) := by decide +kernel
theorem dX7_findRing_63 : decode cX7_findRing 63 = .ok (.iaload, 1) := by decide +kernel
theorem dX7_findRing_64 : decode cX7_findRing 64 = .ok (.iand, 1) := by decide +kernel
theorem dX7_findRing_65 : decode cX7_findRing 65 = .ok (.invokestatic 159, 3) := by decide +kernel
theorem dX7_findRing_68 : decode cX7_findRing 68 = .ok (.iastore, 1) := by decide +kernel
theorem dX7_findRing_69 : decode cX7_findRing 69 = .ok (.iinc 3 1, 3) := by decide +kernel
theorem dX7_findRing_72 : decode cX7_findRing 72 = .ok (.goto (-39), 3) := by decide +kernel
theorem dX7_findRing_75 : decode cX7_findRing 75 = .ok (.iconst 1, 1) := by decide +kernel
theorem dX7_findRing_76 : decode cX7_findRing 76 = .ok (.ireturn, 1) := by decide +kernel
theorem dX7_findRing_77 : decode cX7_findRing 77 = .ok (.iinc 2 1, 3) := by decide +kernel
theorem dX7_findRing_80 : decode cX7_findRing 80 = .ok (.goto (-78), 3) := by decide +kernel
theorem dX7_findRing_83 : decode cX7_findRing 83 = .ok (.iconst 0, 1) := by decide +kernel
theorem dX7_findRing_84 : decode cX7_findRing 84 = .ok (.ireturn, 1) := by decide +kernel
theorem dX7_layRing_0 : decode cX7_layRing 0 = .ok (.aload_n 0, 1) := by decide +kernel
theorem dX7_layRing_1 : decode cX7_layRing 1 = .ok (.iconst 0, 1) := by decide +kernel
theorem dX7_layRing_2 : decode cX7_layRing 2 = .ok (.putfield 156, 3) := by decide +kernel
theorem dX7_layRing_5 : decode cX7_layRing 5 = .ok (.iconst 2, 1) := by decide +kernel
theorem dX7_layRing_6 : decode cX7_layRing 6 = .ok (.istore_n 1, 1) := by decide +kernel
theorem dX7_layRing_7 : decode cX7_layRing 7 = .ok (.aload_n 0, 1) := by decide +kernel
theorem dX7_layRing_8 : decode cX7_layRing 8 = .ok (.invokevirtual 162, 3) := by decide +kernel
theorem dX7_layRing_11 : decode cX7_layRing 11 = .ok (.ifCond .eq 25, 3) := by decide +kernel
theorem dX7_layRing_14 : decode cX7_layRing 14 = .ok (.iload_n 1, 1) := by decide +kernel
theorem dX7_layRing_15 : decode cX7_layRing 15 = .ok (.aload_n 0, 1) := by decide +kernel
theorem dX7_layRing_16 : decode cX7_layRing 16 = .ok (.getfield 130, 3) := by decide +kernel
theorem dX7_layRing_19 : decode cX7_layRing 19 = .ok (.if_icmp .gt 17, 3) := by decide +kernel
theorem dX7_layRing_22 : decode cX7_layRing 22 = .ok (.aload_n 0, 1) := by decide +kernel
theorem dX7_layRing_23 : decode cX7_layRing 23 = .ok (.iload_n 1, 1) := by decide +kernel
theorem dX7_layRing_24 : decode cX7_layRing 24 = .ok (.invokevirtual 166, 3) := by decide +kernel
theorem dX7_layRing_27 : decode cX7_layRing 27 = .ok (.ifCond .ne 9, 3) := by decide +kernel
theorem dX7_layRing_30 : decode cX7_layRing 30 = .ok (.iinc 1 1, 3) := by decide +kernel
theorem dX7_layRing_33 : decode cX7_layRing 33 = .ok (.goto (-26), 3) := by decide +kernel
theorem dX7_layRing_36 : decode cX7_layRing 36 = .ok (.return_, 1) := by decide +kernel
theorem dX7_layNow_0 : decode cX7_layNow 0 = .ok (.aload_n 0, 1) := by decide +kernel
theorem dX7_layNow_1 : decode cX7_layNow 1 = .ok (.aload_n 0, 1) := by decide +kernel
theorem dX7_layNow_2 : decode cX7_layNow 2 = .ok (.getfield 93, 3) := by decide +kernel
theorem dX7_layNow_5 : decode cX7_layNow 5 = .ok (.invokevirtual 169, 3) := by decide +kernel
theorem dX7_layNow_8 : decode cX7_layNow 8 = .ok (.aload_n 0, 1) := by decide +kernel
theorem dX7_layNow_9 : decode cX7_layNow 9 = .ok (.invokevirtual 173, 3) := by decide +kernel
theorem dX7_layNow_12 : decode cX7_layNow 12 = .ok (.return_, 1) := by decide +kernel
theorem dX7_layNew_0 : decode cX7_layNew 0 = .ok (.aload_n 0, 1) := by decide +kernel
theorem dX7_layNew_1 : decode cX7_layNew 1 = .ok (.invokevirtual 176, 3) := by decide +kernel
theorem dX7_layNew_4 : decode cX7_layNew 4 = .ok (.iconst 0, 1) := by decide +kernel
theorem dX7_layNew_5 : decode cX7_layNew 5 = .ok (.istore_n 1, 1) := by decide +kernel
theorem dX7_layNew_6 : decode cX7_layNew 6 = .ok (.iload_n 1, 1) := by decide +kernel
theorem dX7_layNew_7 : decode cX7_layNew 7 = .ok (.bipush 14, 2) := by decide +kernel
theorem dX7_layNew_9 : decode cX7_layNew 9 = .ok (.if_icmp .ge 16, 3) := by decide +kernel
theorem dX7_layNew_12 : decode cX7_layNew 12 = .ok (.aload_n 0, 1) := by decide +kernel
theorem dX7_layNew_13 : decode cX7_layNew 13 = .ok (.getfield 22, 3) := by decide +kernel
theorem dX7_layNew_16 : decode cX7_layNew 16 = .ok (.iload_n 1, 1) := by decide +kernel
theorem dX7_layNew_17 : decode cX7_layNew 17 = .ok (.iconst (-1), 1) := by decide +kernel
theorem dX7_layNew_18 : decode cX7_layNew 18 = .ok (.iastore, 1) := by decide +kernel
theorem dX7_layNew_19 : decode cX7_layNew 19 = .ok (.iinc 1 1, 3) := by decide +kernel
theorem dX7_layNew_22 : decode cX7_layNew 22 = .ok (.goto (-16), 3) := by decide +kernel
theorem dX7_layNew_25 : decode cX7_layNew 25 = .ok (.return_, 1) := by decide +kernel
theorem dX7_channel_0 : decode cX7_channel 0 = .ok (.aload_n 0, 1) := by decide +kernel
theorem dX7_channel_1 : decode cX7_channel 1 = .ok (.invokevirtual 80, 3) := by decide +kernel
theorem dX7_channel_4 : decode cX7_channel 4 = .ok (.pop, 1) := by decide +kernel
theorem dX7_channel_5 : decode cX7_channel 5 = .ok (.aload_n 0, 1) := by decide +kernel
theorem dX7_channel_6 : decode cX7_channel 6 = .ok (.getfield 59, 3) := by decide +kernel
theorem dX7_channel_9 : decode cX7_channel 9 = .ok (.ifCond .ne 6, 3) := by decide +kernel
theorem dX7_channel_12 : decode cX7_channel 12 = .ok (.bipush (-103), 2) := by decide +kernel
theorem dX7_channel_14 : decode cX7_channel 14 = .ok (.ireturn, 1) := by decide +kernel
theorem dX7_channel_15 : decode cX7_channel 15 = .ok (.aload_n 0, 1) := by decide +kernel
theorem dX7_channel_16 : decode cX7_channel 16 = .ok (.aload_n 0, 1) := by decide +kernel
theorem dX7_channel_17 : decode cX7_channel 17 = .ok (.getfield 67, 3) := by decide +kernel
theorem dX7_channel_20 : decode cX7_channel 20 = .ok (.putfield 87, 3) := by decide +kernel
theorem dX7_channel_23 : decode cX7_channel 23 = .ok (.iconst 0, 1) := by decide +kernel
theorem dX7_channel_24 : decode cX7_channel 24 = .ok (.istore_n 1, 1) := by decide +kernel
theorem dX7_channel_25 : decode cX7_channel 25 = .ok (.iload_n 1, 1) := by decide +kernel
theorem dX7_channel_26 : decode cX7_channel 26 = .ok (.aload_n 0, 1) := by decide +kernel
theorem dX7_channel_27 : decode cX7_channel 27 = .ok (.getfield 87, 3) := by decide +kernel
theorem dX7_channel_30 : decode cX7_channel 30 = .ok (.if_icmp .ge 52, 3) := by decide +kernel
theorem dX7_channel_33 : decode cX7_channel 33 = .ok (.aload_n 0, 1) := by decide +kernel
theorem dX7_channel_34 : decode cX7_channel 34 = .ok (.getfield 7, 3) := by decide +kernel
theorem dX7_channel_37 : decode cX7_channel 37 = .ok (.iconst 2, 1) := by decide +kernel
theorem dX7_channel_38 : decode cX7_channel 38 = .ok (.iload_n 1, 1) := by decide +kernel
theorem dX7_channel_39 : decode cX7_channel 39 = .ok (.imul, 1) := by decide +kernel
theorem dX7_channel_40 : decode cX7_channel 40 = .ok (.aload_n 0, 1) := by decide +kernel
theorem dX7_channel_41 : decode cX7_channel 41 = .ok (.getfield 34, 3) := by decide +kernel
theorem dX7_channel_44 : decode cX7_channel 44 = .ok (.iload_n 1, 1) := by decide +kernel
theorem dX7_channel_45 : decode cX7_channel 45 = .ok (.iaload, 1) := by decide +kernel
theorem dX7_channel_46 : decode cX7_channel 46 = .ok (.invokestatic 90, 3) := by decide +kernel
theorem dX7_channel_49 : decode cX7_channel 49 = .ok (.iastore, 1) := by decide +kernel
theorem dX7_channel_50 : decode cX7_channel 50 = .ok (.aload_n 0, 1) := by decide +kernel
theorem dX7_channel_51 : decode cX7_channel 51 = .ok (.getfield 7, 3) := by decide +kernel
theorem dX7_channel_54 : decode cX7_channel 54 = .ok (.iconst 2, 1) := by decide +kernel
theorem dX7_channel_55 : decode cX7_channel 55 = .ok (.iload_n 1, 1) := by decide +kernel
theorem dX7_channel_56 : decode cX7_channel 56 = .ok (.imul, 1) := by decide +kernel
theorem dX7_channel_57 : decode cX7_channel 57 = .ok (.iconst 1, 1) := by decide +kernel
theorem dX7_channel_58 : decode cX7_channel 58 = .ok (.iadd, 1) := by decide +kernel
theorem dX7_channel_59 : decode cX7_channel 59 = .ok (.aload_n 0, 1) := by decide +kernel
theorem dX7_channel_60 : decode cX7_channel 60 = .ok (.getfield 34, 3) := by decide +kernel
theorem dX7_channel_63 : decode cX7_channel 63 = .ok (.aload_n 0, 1) := by decide +kernel
theorem dX7_channel_64 : decode cX7_channel 64 = .ok (.getfield 87, 3) := by decide +kernel
theorem dX7_channel_67 : decode cX7_channel 67 = .ok (.iconst 1, 1) := by decide +kernel
theorem dX7_channel_68 : decode cX7_channel 68 = .ok (.iadd, 1) := by decide +kernel
theorem dX7_channel_69 : decode cX7_channel 69 = .ok (.iload_n 1, 1) := by decide +kernel
theorem dX7_channel_70 : decode cX7_channel 70 = .ok (.iadd, 1) := by decide +kernel
theorem dX7_channel_71 : decode cX7_channel 71 = .ok (.iaload, 1) := by decide +kernel
theorem dX7_channel_72 : decode cX7_channel 72 = .ok (.invokestatic 90, 3) := by decide +kernel
theorem dX7_channel_75 : decode cX7_channel 75 = .ok (.iastore, 1) := by decide +kernel
theorem dX7_channel_76 : decode cX7_channel 76 = .ok (.iinc 1 1, 3) := by decide +kernel
theorem dX7_channel_79 : decode cX7_channel 79 = .ok (.goto (-54), 3) := by decide +kernel
theorem dX7_channel_82 : decode cX7_channel 82 = .ok (.aload_n 0, 1) := by decide +kernel
theorem dX7_channel_83 : decode cX7_channel 83 = .ok (.iconst 0, 1) := by decide +kernel
theorem dX7_channel_84 : decode cX7_channel 84 = .ok (.putfield 93, 3) := by decide +kernel
theorem dX7_channel_87 : decode cX7_channel 87 = .ok (.aload_n 0, 1) := by decide +kernel
theorem dX7_channel_88 : decode cX7_channel 88 = .ok (.dup, 1) := by decide +kernel
theorem dX7_channel_89 : decode cX7_channel 89 = .ok (.getfield 96, 3) := by decide +kernel
theorem dX7_channel_92 : decode cX7_channel 92 = .ok (.iconst 1, 1) := by decide +kernel
end
section
theorem dX7_channel_93 : decode cX7_channel 93 = .ok (.iadd, 1) := by decide +kernel
theorem dX7_channel_94 : decode cX7_channel 94 = .ok (.putfield 96, 3) := by decide +kernel
theorem dX7_channel_97 : decode cX7_channel 97 = .ok (.aload_n 0, 1) := by decide +kernel
theorem dX7_channel_98 : decode cX7_channel 98 = .ok (.iconst 0, 1) := by decide +kernel
theorem dX7_channel_99 : decode cX7_channel 99 = .ok (.putfield 51, 3) := by decide +kernel
theorem dX7_channel_102 : decode cX7_channel 102 = .ok (.aload_n 0, 1) := by decide +kernel
theorem dX7_channel_103 : decode cX7_channel 103 = .ok (.invokevirtual 99, 3) := by decide +kernel
theorem dX7_channel_106 : decode cX7_channel 106 = .ok (.aload_n 0, 1) := by decide +kernel
theorem dX7_channel_107 : decode cX7_channel 107 = .ok (.getfield 87, 3) := by decide +kernel
theorem dX7_channel_110 : decode cX7_channel 110 = .ok (.ireturn, 1) := by decide +kernel
theorem dX7_isThere_0 : decode cX7_isThere 0 = .ok (.aload_n 0, 1) := by decide +kernel
theorem dX7_isThere_1 : decode cX7_isThere 1 = .ok (.getfield 87, 3) := by decide +kernel
theorem dX7_isThere_4 : decode cX7_isThere 4 = .ok (.ifCond .le 7, 3) := by decide +kernel
theorem dX7_isThere_7 : decode cX7_isThere 7 = .ok (.iconst 1, 1) := by decide +kernel
theorem dX7_isThere_8 : decode cX7_isThere 8 = .ok (.goto 4, 3) := by decide +kernel
theorem dX7_isThere_11 : decode cX7_isThere 11 = .ok (.iconst 0, 1) := by decide +kernel
theorem dX7_isThere_12 : decode cX7_isThere 12 = .ok (.ireturn, 1) := by decide +kernel
theorem dX7_withTrack_0 : decode cX7_withTrack 0 = .ok (.iconst 0, 1) := by decide +kernel
theorem dX7_withTrack_1 : decode cX7_withTrack 1 = .ok (.istore_n 1, 1) := by decide +kernel
theorem dX7_withTrack_2 : decode cX7_withTrack 2 = .ok (.iconst 0, 1) := by decide +kernel
theorem dX7_withTrack_3 : decode cX7_withTrack 3 = .ok (.istore_n 2, 1) := by decide +kernel
theorem dX7_withTrack_4 : decode cX7_withTrack 4 = .ok (.iload_n 2, 1) := by decide +kernel
theorem dX7_withTrack_5 : decode cX7_withTrack 5 = .ok (.aload_n 0, 1) := by decide +kernel
theorem dX7_withTrack_6 : decode cX7_withTrack 6 = .ok (.getfield 130, 3) := by decide +kernel
theorem dX7_withTrack_9 : decode cX7_withTrack 9 = .ok (.if_icmp .ge 27, 3) := by decide +kernel
theorem dX7_withTrack_12 : decode cX7_withTrack 12 = .ok (.iload_n 1, 1) := by decide +kernel
theorem dX7_withTrack_13 : decode cX7_withTrack 13 = .ok (.aload_n 0, 1) := by decide +kernel
theorem dX7_withTrack_14 : decode cX7_withTrack 14 = .ok (.getfield 22, 3) := by decide +kernel
theorem dX7_withTrack_17 : decode cX7_withTrack 17 = .ok (.iload_n 2, 1) := by decide +kernel
theorem dX7_withTrack_18 : decode cX7_withTrack 18 = .ok (.iaload, 1) := by decide +kernel
theorem dX7_withTrack_19 : decode cX7_withTrack 19 = .ok (.iconst (-1), 1) := by decide +kernel
theorem dX7_withTrack_20 : decode cX7_withTrack 20 = .ok (.if_icmp .ne 7, 3) := by decide +kernel
theorem dX7_withTrack_23 : decode cX7_withTrack 23 = .ok (.iconst 0, 1) := by decide +kernel
theorem dX7_withTrack_24 : decode cX7_withTrack 24 = .ok (.goto 4, 3) := by decide +kernel
theorem dX7_withTrack_27 : decode cX7_withTrack 27 = .ok (.iconst 1, 1) := by decide +kernel
theorem dX7_withTrack_28 : decode cX7_withTrack 28 = .ok (.iadd, 1) := by decide +kernel
theorem dX7_withTrack_29 : decode cX7_withTrack 29 = .ok (.istore_n 1, 1) := by decide +kernel
theorem dX7_withTrack_30 : decode cX7_withTrack 30 = .ok (.iinc 2 1, 3) := by decide +kernel
theorem dX7_withTrack_33 : decode cX7_withTrack 33 = .ok (.goto (-29), 3) := by decide +kernel
theorem dX7_withTrack_36 : decode cX7_withTrack 36 = .ok (.iload_n 1, 1) := by decide +kernel
theorem dX7_withTrack_37 : decode cX7_withTrack 37 = .ok (.ireturn, 1) := by decide +kernel
theorem dX7_clearNow_0 : decode cX7_clearNow 0 = .ok (.aload_n 0, 1) := by decide +kernel
theorem dX7_clearNow_1 : decode cX7_clearNow 1 = .ok (.invokevirtual 275, 3) := by decide +kernel
theorem dX7_clearNow_4 : decode cX7_clearNow 4 = .ok (.istore_n 1, 1) := by decide +kernel
theorem dX7_clearNow_5 : decode cX7_clearNow 5 = .ok (.iconst 0, 1) := by decide +kernel
theorem dX7_clearNow_6 : decode cX7_clearNow 6 = .ok (.istore_n 2, 1) := by decide +kernel
theorem dX7_clearNow_7 : decode cX7_clearNow 7 = .ok (.iload_n 2, 1) := by decide +kernel
theorem dX7_clearNow_8 : decode cX7_clearNow 8 = .ok (.bipush 14, 2) := by decide +kernel
theorem dX7_clearNow_10 : decode cX7_clearNow 10 = .ok (.if_icmp .ge 16, 3) := by decide +kernel
theorem dX7_clearNow_13 : decode cX7_clearNow 13 = .ok (.aload_n 0, 1) := by decide +kernel
theorem dX7_clearNow_14 : decode cX7_clearNow 14 = .ok (.getfield 22, 3) := by decide +kernel
theorem dX7_clearNow_17 : decode cX7_clearNow 17 = .ok (.iload_n 2, 1) := by decide +kernel
theorem dX7_clearNow_18 : decode cX7_clearNow 18 = .ok (.iconst (-1), 1) := by decide +kernel
theorem dX7_clearNow_19 : decode cX7_clearNow 19 = .ok (.iastore, 1) := by decide +kernel
theorem dX7_clearNow_20 : decode cX7_clearNow 20 = .ok (.iinc 2 1, 3) := by decide +kernel
theorem dX7_clearNow_23 : decode cX7_clearNow 23 = .ok (.goto (-16), 3) := by decide +kernel
theorem dX7_clearNow_26 : decode cX7_clearNow 26 = .ok (.iload_n 1, 1) := by decide +kernel
theorem dX7_clearNow_27 : decode cX7_clearNow 27 = .ok (.ireturn, 1) := by decide +kernel
theorem dX7_isMet_0 : decode cX7_isMet 0 = .ok (.aload_n 0, 1) := by decide +kernel
theorem dX7_isMet_1 : decode cX7_isMet 1 = .ok (.getfield 13, 3) := by decide +kernel
theorem dX7_isMet_4 : decode cX7_isMet 4 = .ok (.iload_n 1, 1) := by decide +kernel
theorem dX7_isMet_5 : decode cX7_isMet 5 = .ok (.iaload, 1) := by decide +kernel
theorem dX7_isMet_6 : decode cX7_isMet 6 = .ok (.aload_n 0, 1) := by decide +kernel
theorem dX7_isMet_7 : decode cX7_isMet 7 = .ok (.getfield 13, 3) := by decide +kernel
theorem dX7_isMet_10 : decode cX7_isMet 10 = .ok (.iload_n 2, 1) := by decide +kernel
theorem dX7_isMet_11 : decode cX7_isMet 11 = .ok (.iaload, 1) := by decide +kernel
theorem dX7_isMet_12 : decode cX7_isMet 12 = .ok (.if_icmp .eq 37, 3) := by decide +kernel
theorem dX7_isMet_15 : decode cX7_isMet 15 = .ok (.aload_n 0, 1) := by decide +kernel
theorem dX7_isMet_16 : decode cX7_isMet 16 = .ok (.getfield 16, 3) := by decide +kernel
theorem dX7_isMet_19 : decode cX7_isMet 19 = .ok (.iload_n 1, 1) := by decide +kernel
theorem dX7_isMet_20 : decode cX7_isMet 20 = .ok (.iaload, 1) := by decide +kernel
theorem dX7_isMet_21 : decode cX7_isMet 21 = .ok (.aload_n 0, 1) := by decide +kernel
theorem dX7_isMet_22 : decode cX7_isMet 22 = .ok (.getfield 19, 3) := by decide +kernel
theorem dX7_isMet_25 : decode cX7_isMet 25 = .ok (.iload_n 2, 1) := by decide +kernel
theorem dX7_isMet_26 : decode cX7_isMet 26 = .ok (.iaload, 1) := by decide +kernel
theorem dX7_isMet_27 : decode cX7_isMet 27 = .ok (.if_icmp .gt 22, 3) := by decide +kernel
theorem dX7_isMet_30 : decode cX7_isMet 30 = .ok (.aload_n 0, 1) := by decide +kernel
theorem dX7_isMet_31 : decode cX7_isMet 31 = .ok (.getfield 16, 3) := by decide +kernel
theorem dX7_isMet_34 : decode cX7_isMet 34 = .ok (.iload_n 2, 1) := by decide +kernel
theorem dX7_isMet_35 : decode cX7_isMet 35 = .ok (.iaload, 1) := by decide +kernel
theorem dX7_isMet_36 : decode cX7_isMet 36 = .ok (.aload_n 0, 1) := by decide +kernel
theorem dX7_isMet_37 : decode cX7_isMet 37 = .ok (.getfield 19, 3) := by decide +kernel
theorem dX7_isMet_40 : decode cX7_isMet 40 = .ok (.iload_n 1, 1) := by decide +kernel
theorem dX7_isMet_41 : decode cX7_isMet 41 = .ok (.iaload, 1) := by decide +kernel
theorem dX7_isMet_42 : decode cX7_isMet 42 = .ok (.if_icmp .gt 7, 3) := by decide +kernel
theorem dX7_isMet_45 : decode cX7_isMet 45 = .ok (.iconst 1, 1) := by decide +kernel
theorem dX7_isMet_46 : decode cX7_isMet 46 = .ok (.goto 4, 3) := by decide +kernel
theorem dX7_isMet_49 : decode cX7_isMet 49 = .ok (.iconst 0, 1) := by decide +kernel
theorem dX7_isMet_50 : decode cX7_isMet 50 = .ok (.ireturn, 1) := by decide +kernel
theorem dX7_mayCome_0 : decode cX7_mayCome 0 = .ok (.aload_n 0, 1) := by decide +kernel
theorem dX7_mayCome_1 : decode cX7_mayCome 1 = .ok (.getfield 22, 3) := by decide +kernel
theorem dX7_mayCome_4 : decode cX7_mayCome 4 = .ok (.iload_n 1, 1) := by decide +kernel
theorem dX7_mayCome_5 : decode cX7_mayCome 5 = .ok (.iaload, 1) := by decide +kernel
theorem dX7_mayCome_6 : decode cX7_mayCome 6 = .ok (.iconst (-1), 1) := by decide +kernel
theorem dX7_mayCome_7 : decode cX7_mayCome 7 = .ok (.if_icmp .ne 7, 3) := by decide +kernel
theorem dX7_mayCome_10 : decode cX7_mayCome 10 = .ok (.iconst 1, 1) := by decide +kernel
theorem dX7_mayCome_11 : decode cX7_mayCome 11 = .ok (.goto 4, 3) := by decide +kernel
theorem dX7_mayCome_14 : decode cX7_mayCome 14 = .ok (.iconst 0, 1) := by decide +kernel
theorem dX7_mayCome_15 : decode cX7_mayCome 15 = .ok (.istore_n 3, 1) := by decide +kernel
theorem dX7_mayCome_16 : decode cX7_mayCome 16 = .ok (.iconst 0, 1) := by decide +kernel
theorem dX7_mayCome_17 : decode cX7_mayCome 17 = .ok (.istore 4, 2) := by decide +kernel
theorem dX7_mayCome_19 : decode cX7_mayCome 19 = .ok (.iload 4, 2) := by decide +kernel
theorem dX7_mayCome_21 : decode cX7_mayCome 21 = .ok (.aload_n 0, 1) := by decide +kernel
theorem dX7_mayCome_22 : decode cX7_mayCome 22 = .ok (.getfield 130, 3) := by decide +kernel
theorem dX7_mayCome_25 : decode cX7_mayCome 25 = .ok (.if_icmp .ge 86, 3) := by decide +kernel
theorem dX7_mayCome_28 : decode cX7_mayCome 28 = .ok (.iload_n 3, 1) := by decide +kernel
theorem dX7_mayCome_29 : decode cX7_mayCome 29 = .ok (.ifCond .eq 28, 3) := by decide +kernel
theorem dX7_mayCome_32 : decode cX7_mayCome 32 = .ok (.aload_n 0, 1) := by decide +kernel
theorem dX7_mayCome_33 : decode cX7_mayCome 33 = .ok (.getfield 22, 3) := by decide +kernel
theorem dX7_mayCome_36 : decode cX7_mayCome 36 = .ok (.iload 4, 2) := by decide +kernel
theorem dX7_mayCome_38 : decode cX7_mayCome 38 = .ok (.iaload, 1) := by decide +kernel
theorem dX7_mayCome_39 : decode cX7_mayCome 39 = .ok (.iload_n 2, 1) := by decide +kernel
theorem dX7_mayCome_40 : decode cX7_mayCome 40 = .ok (.if_icmp .ne 13, 3) := by decide +kernel
theorem dX7_mayCome_43 : decode cX7_mayCome 43 = .ok (.aload_n 0, 1) := by decide +kernel
theorem dX7_mayCome_44 : decode cX7_mayCome 44 = .ok (.iload 4, 2) := by decide +kernel
theorem dX7_mayCome_46 : decode cX7_mayCome 46 = .ok (.iload_n 1, 1) := by decide +kernel
theorem dX7_mayCome_47 : decode cX7_mayCome 47 = .ok (.invokevirtual 179, 3) := by decide +kernel
theorem dX7_mayCome_50 : decode cX7_mayCome 50 = .ok (.ifCond .ne 7, 3) := by decide +kernel
theorem dX7_mayCome_53 : decode cX7_mayCome 53 = .ok (.iconst 1, 1) := by decide +kernel
theorem dX7_mayCome_54 : decode cX7_mayCome 54 = .ok (.goto 4, 3) := by decide +kernel
theorem dX7_mayCome_57 : decode cX7_mayCome 57 = .ok (.iconst 0, 1) := by decide +kernel
theorem dX7_mayCome_58 : decode cX7_mayCome 58 = .ok (.istore_n 3, 1) := by decide +kernel
theorem dX7_mayCome_59 : decode cX7_mayCome 59 = .ok (.iload_n 3, 1) := by decide +kernel
theorem dX7_mayCome_60 : decode cX7_mayCome 60 = .ok (.ifCond .eq 43, 3) := by decide +kernel
theorem dX7_mayCome_63 : decode cX7_mayCome 63 = .ok (.aload_n 0, 1) := by decide +kernel
theorem dX7_mayCome_64 : decode cX7_mayCome 64 = .ok (.getfield 25, 3) := by decide +kernel
theorem dX7_mayCome_67 : decode cX7_mayCome 67 = .ok (.iload 4, 2) := by decide +kernel
theorem dX7_mayCome_69 : decode cX7_mayCome 69 = .ok (.iaload, 1) := by decide +kernel
theorem dX7_mayCome_70 : decode cX7_mayCome 70 = .ok (.iload_n 1, 1) := by decide +kernel
theorem dX7_mayCome_71 : decode cX7_mayCome 71 = .ok (.invokestatic 43, 3) := by decide +kernel
theorem dX7_mayCome_74 : decode cX7_mayCome 74 = .ok (.ifCond .eq 25, 3) := by decide +kernel
theorem dX7_mayCome_77 : decode cX7_mayCome 77 = .ok (.aload_n 0, 1) := by decide +kernel
theorem dX7_mayCome_78 : decode cX7_mayCome 78 = .ok (.getfield 22, 3) := by decide +kernel
theorem dX7_mayCome_81 : decode cX7_mayCome 81 = .ok (.iload 4, 2) := by decide +kernel
theorem dX7_mayCome_83 : decode cX7_mayCome 83 = .ok (.iaload, 1) := by decide +kernel
theorem dX7_mayCome_84 : decode cX7_mayCome 84 = .ok (.iconst (-1), 1) := by decide +kernel
theorem dX7_mayCome_85 : decode cX7_mayCome 85 = .ok (.if_icmp .eq 18, 3) := by decide +kernel
theorem dX7_mayCome_88 : decode cX7_mayCome 88 = .ok (.aload_n 0, 1) := by decide +kernel
theorem dX7_mayCome_89 : decode cX7_mayCome 89 = .ok (.getfield 22, 3) := by decide +kernel
theorem dX7_mayCome_92 : decode cX7_mayCome 92 = .ok (.iload 4, 2) := by decide +kernel
theorem dX7_mayCome_94 : decode cX7_mayCome 94 = .ok (.iaload, 1) := by decide +kernel
theorem dX7_mayCome_95 : decode cX7_mayCome 95 = .ok (.iload_n 2, 1) := by decide +kernel
theorem dX7_mayCome_96 : decode cX7_mayCome 96 = .ok (.if_icmp .ge 7, 3) := by decide +kernel
theorem dX7_mayCome_99 : decode cX7_mayCome 99 = .ok (.iconst 1, 1) := by decide +kernel
theorem dX7_mayCome_100 : decode cX7_mayCome 100 = .ok (.goto 4, 3) := by decide +kernel
theorem dX7_mayCome_103 : decode cX7_mayCome 103 = .ok (.iconst 0, 1) := by decide +kernel
theorem dX7_mayCome_104 : decode cX7_mayCome 104 = .ok (.istore_n 3, 1) := by decide +kernel
theorem dX7_mayCome_105 : decode cX7_mayCome 105 = .ok (.iinc 4 1, 3) := by decide +kernel
theorem dX7_mayCome_108 : decode cX7_mayCome 108 = .ok (.goto (-89), 3) := by decide +kernel
theorem dX7_mayCome_111 : decode cX7_mayCome 111 = .ok (.iload_n 3, 1) := by decide +kernel
theorem dX7_mayCome_112 : decode cX7_mayCome 112 = .ok (.ireturn, 1) := by decide +kernel
theorem dX7_nextFor_0 : decode cX7_nextFor 0 = .ok (.iconst (-1), 1) := by decide +kernel
theorem dX7_nextFor_1 : decode cX7_nextFor 1 = .ok (.istore_n 2, 1) := by decide +kernel
theorem dX7_nextFor_2 : decode cX7_nextFor 2 = .ok (.iconst 0, 1) := by decide +kernel
theorem dX7_nextFor_3 : decode cX7_nextFor 3 = .ok (.istore_n 3, 1) := by decide +kernel
theorem dX7_nextFor_4 : decode cX7_nextFor 4 = .ok (.iload_n 3, 1) := by decide +kernel
theorem dX7_nextFor_5 : decode cX7_nextFor 5 = .ok (.aload_n 0, 1) := by decide +kernel
theorem dX7_nextFor_6 : decode cX7_nextFor 6 = .ok (.getfield 130, 3) := by decide +kernel
theorem dX7_nextFor_9 : decode cX7_nextFor 9 = .ok (.if_icmp .ge 56, 3) := by decide +kernel
theorem dX7_nextFor_12 : decode cX7_nextFor 12 = .ok (.iload_n 2, 1) := by decide +kernel
theorem dX7_nextFor_13 : decode cX7_nextFor 13 = .ok (.iconst (-1), 1) := by decide +kernel
theorem dX7_nextFor_14 : decode cX7_nextFor 14 = .ok (.if_icmp .eq 18, 3) := by decide +kernel
theorem dX7_nextFor_17 : decode cX7_nextFor 17 = .ok (.aload_n 0, 1) := by decide +kernel
theorem dX7_nextFor_18 : decode cX7_nextFor 18 = .ok (.getfield 16, 3) := by decide +kernel
theorem dX7_nextFor_21 : decode cX7_nextFor 21 = .ok (.iload_n 3, 1) := by decide +kernel
theorem dX7_nextFor_22 : decode cX7_nextFor 22 = .ok (.iaload, 1) := by decide +kernel
theorem dX7_nextFor_23 : decode cX7_nextFor 23 = .ok (.aload_n 0, 1) := by decide +kernel
theorem dX7_nextFor_24 : decode cX7_nextFor 24 = .ok (.getfield 16, 3) := by decide +kernel
theorem dX7_nextFor_27 : decode cX7_nextFor 27 = .ok (.iload_n 2, 1) := by decide +kernel
theorem dX7_nextFor_28 : decode cX7_nextFor 28 = .ok (.iaload, 1) := by decide +kernel
theorem dX7_nextFor_29 : decode cX7_nextFor 29 = .ok (.if_icmp .ge 7, 3) := by decide +kernel
theorem dX7_nextFor_32 : decode cX7_nextFor 32 = .ok (.iconst 1, 1) := by decide +kernel
theorem dX7_nextFor_33 : decode cX7_nextFor 33 = .ok (.goto 4, 3) := by decide +kernel
theorem dX7_nextFor_36 : decode cX7_nextFor 36 = .ok (.iconst 0, 1) := by decide +kernel
theorem dX7_nextFor_37 : decode cX7_nextFor 37 = .ok (.istore 4, 2) := by decide +kernel
theorem dX7_nextFor_39 : decode cX7_nextFor 39 = .ok (.aload_n 0, 1) := by decide +kernel
theorem dX7_nextFor_40 : decode cX7_nextFor 40 = .ok (.iload_n 3, 1) := by decide +kernel
theorem dX7_nextFor_41 : decode cX7_nextFor 41 = .ok (.iload_n 1, 1) := by decide +kernel
theorem dX7_nextFor_42 : decode cX7_nextFor 42 = .ok (.invokevirtual 281, 3) := by decide +kernel
theorem dX7_nextFor_45 : decode cX7_nextFor 45 = .ok (.ifCond .eq 12, 3) := by decide +kernel
theorem dX7_nextFor_48 : decode cX7_nextFor 48 = .ok (.iload 4, 2) := by decide +kernel
theorem dX7_nextFor_50 : decode cX7_nextFor 50 = .ok (.ifCond .eq 7, 3) := by decide +kernel
theorem dX7_nextFor_53 : decode cX7_nextFor 53 = .ok (.iload_n 3, 1) := by decide +kernel
theorem dX7_nextFor_54 : decode cX7_nextFor 54 = .ok (.goto 4, 3) := by decide +kernel
theorem dX7_nextFor_57 : decode cX7_nextFor 57 = .ok (.iload_n 2, 1) := by decide +kernel
theorem dX7_nextFor_58 : decode cX7_nextFor 58 = .ok (.istore_n 2, 1) := by decide +kernel
theorem dX7_nextFor_59 : decode cX7_nextFor 59 = .ok (.iinc 3 1, 3) := by decide +kernel
theorem dX7_nextFor_62 : decode cX7_nextFor 62 = .ok (.goto (-58), 3) := by decide +kernel
theorem dX7_nextFor_65 : decode cX7_nextFor 65 = .ok (.iload_n 2, 1) := by decide +kernel
theorem dX7_nextFor_66 : decode cX7_nextFor 66 = .ok (.ireturn, 1) := by decide +kernel
theorem dX7_depth_0 : decode cX7_depth 0 = .ok (.iconst (-1), 1) := by decide +kernel
theorem dX7_depth_1 : decode cX7_depth 1 = .ok (.istore_n 1, 1) := by decide +kernel
theorem dX7_depth_2 : decode cX7_depth 2 = .ok (.iconst 0, 1) := by decide +kernel
theorem dX7_depth_3 : decode cX7_depth 3 = .ok (.istore_n 2, 1) := by decide +kernel
theorem dX7_depth_4 : decode cX7_depth 4 = .ok (.iload_n 2, 1) := by decide +kernel
theorem dX7_depth_5 : decode cX7_depth 5 = .ok (.aload_n 0, 1) := by decide +kernel
theorem dX7_depth_6 : decode cX7_depth 6 = .ok (.getfield 130, 3) := by decide +kernel
theorem dX7_depth_9 : decode cX7_depth 9 = .ok (.if_icmp .ge 30, 3) := by decide +kernel
theorem dX7_depth_12 : decode cX7_depth 12 = .ok (.aload_n 0, 1) := by decide +kernel
theorem dX7_depth_13 : decode cX7_depth 13 = .ok (.getfield 22, 3) := by decide +kernel
theorem dX7_depth_16 : decode cX7_depth 16 = .ok (.iload_n 2, 1) := by decide +kernel
theorem dX7_depth_17 : decode cX7_depth 17 = .ok (.iaload, 1) := by decide +kernel
theorem dX7_depth_18 : decode cX7_depth 18 = .ok (.iload_n 1, 1) := by decide +kernel
theorem dX7_depth_19 : decode cX7_depth 19 = .ok (.if_icmp .le 12, 3) := by decide +kernel
theorem dX7_depth_22 : decode cX7_depth 22 = .ok (.aload_n 0, 1) := by decide +kernel
theorem dX7_depth_23 : decode cX7_depth 23 = .ok (.getfield 22, 3) := by decide +kernel
theorem dX7_depth_26 : decode cX7_depth 26 = .ok (.iload_n 2, 1) := by decide +kernel
theorem dX7_depth_27 : decode cX7_depth 27 = .ok (.iaload, 1) := by decide +kernel
theorem dX7_depth_28 : decode cX7_depth 28 = .ok (.goto 4, 3) := by decide +kernel
theorem dX7_depth_31 : decode cX7_depth 31 = .ok (.iload_n 1, 1) := by decide +kernel
theorem dX7_depth_32 : decode cX7_depth 32 = .ok (.istore_n 1, 1) := by decide +kernel
theorem dX7_depth_33 : decode cX7_depth 33 = .ok (.iinc 2 1, 3) := by decide +kernel
theorem dX7_depth_36 : decode cX7_depth 36 = .ok (.goto (-32), 3) := by decide +kernel
theorem dX7_depth_39 : decode cX7_depth 39 = .ok (.iload_n 1, 1) := by decide +kernel
theorem dX7_depth_40 : decode cX7_depth 40 = .ok (.iconst 1, 1) := by decide +kernel
theorem dX7_depth_41 : decode cX7_depth 41 = .ok (.iadd, 1) := by decide +kernel
theorem dX7_depth_42 : decode cX7_depth 42 = .ok (.ireturn, 1) := by decide +kernel
theorem dX7_pack_0 : decode cX7_pack 0 = .ok (.aload_n 0, 1) := by decide +kernel
theorem dX7_pack_1 : decode cX7_pack 1 = .ok (.invokevirtual 197, 3) := by decide +kernel
theorem dX7_pack_4 : decode cX7_pack 4 = .ok (.ifCond .eq 10, 3) := by decide +kernel
theorem dX7_pack_7 : decode cX7_pack 7 = .ok (.aload_n 0, 1) := by decide +kernel
theorem dX7_pack_8 : decode cX7_pack 8 = .ok (.getfield 156, 3) := by decide +kernel
theorem dX7_pack_11 : decode cX7_pack 11 = .ok (.ifCond .le 6, 3) := by decide +kernel
theorem dX7_pack_14 : decode cX7_pack 14 = .ok (.bipush (-103), 2) := by decide +kernel
theorem dX7_pack_16 : decode cX7_pack 16 = .ok (.ireturn, 1) := by decide +kernel
theorem dX7_pack_17 : decode cX7_pack 17 = .ok (.aload_n 0, 1) := by decide +kernel
theorem dX7_pack_18 : decode cX7_pack 18 = .ok (.invokevirtual 278, 3) := by decide +kernel
theorem dX7_pack_21 : decode cX7_pack 21 = .ok (.pop, 1) := by decide +kernel
theorem dX7_pack_22 : decode cX7_pack 22 = .ok (.iconst 0, 1) := by decide +kernel
theorem dX7_pack_23 : decode cX7_pack 23 = .ok (.istore_n 1, 1) := by decide +kernel
theorem dX7_pack_24 : decode cX7_pack 24 = .ok (.iload_n 1, 1) := by decide +kernel
theorem dX7_pack_25 : decode cX7_pack 25 = .ok (.bipush 14, 2) := by decide +kernel
theorem dX7_pack_27 : decode cX7_pack 27 = .ok (.if_icmp .ge 36, 3) := by decide +kernel
theorem dX7_pack_30 : decode cX7_pack 30 = .ok (.aload_n 0, 1) := by decide +kernel
theorem dX7_pack_31 : decode cX7_pack 31 = .ok (.iload_n 1, 1) := by decide +kernel
theorem dX7_pack_32 : decode cX7_pack 32 = .ok (.invokevirtual 284, 3) := by decide +kernel
theorem dX7_pack_35 : decode cX7_pack 35 = .ok (.istore_n 2, 1) := by decide +kernel
theorem dX7_pack_36 : decode cX7_pack 36 = .ok (.iload_n 2, 1) := by decide +kernel
theorem dX7_pack_37 : decode cX7_pack 37 = .ok (.iconst (-1), 1) := by decide +kernel
theorem dX7_pack_38 : decode cX7_pack 38 = .ok (.if_icmp .eq 19, 3) := by decide +kernel
theorem dX7_pack_41 : decode cX7_pack 41 = .ok (.aload_n 0, 1) := by decide +kernel
theorem dX7_pack_42 : decode cX7_pack 42 = .ok (.getfield 22, 3) := by decide +kernel
theorem dX7_pack_45 : decode cX7_pack 45 = .ok (.iload_n 2, 1) := by decide +kernel
theorem dX7_pack_46 : decode cX7_pack 46 = .ok (.iload_n 1, 1) := by decide +kernel
theorem dX7_pack_47 : decode cX7_pack 47 = .ok (.iastore, 1) := by decide +kernel
theorem dX7_pack_48 : decode cX7_pack 48 = .ok (.aload_n 0, 1) := by decide +kernel
theorem dX7_pack_49 : decode cX7_pack 49 = .ok (.iload_n 1, 1) := by decide +kernel
theorem dX7_pack_50 : decode cX7_pack 50 = .ok (.invokevirtual 284, 3) := by decide +kernel
theorem dX7_pack_53 : decode cX7_pack 53 = .ok (.istore_n 2, 1) := by decide +kernel
theorem dX7_pack_54 : decode cX7_pack 54 = .ok (.goto (-18), 3) := by decide +kernel
theorem dX7_pack_57 : decode cX7_pack 57 = .ok (.iinc 1 1, 3) := by decide +kernel
theorem dX7_pack_60 : decode cX7_pack 60 = .ok (.goto (-36), 3) := by decide +kernel
theorem dX7_pack_63 : decode cX7_pack 63 = .ok (.aload_n 0, 1) := by decide +kernel
theorem dX7_pack_64 : decode cX7_pack 64 = .ok (.invokevirtual 185, 3) := by decide +kernel
theorem dX7_pack_67 : decode cX7_pack 67 = .ok (.ireturn, 1) := by decide +kernel
theorem dX7_isFine_0 : decode cX7_isFine 0 = .ok (.aload_n 0, 1) := by decide +kernel
theorem dX7_isFine_1 : decode cX7_isFine 1 = .ok (.getfield 22, 3) := by decide +kernel
theorem dX7_isFine_4 : decode cX7_isFine 4 = .ok (.iload_n 1, 1) := by decide +kernel
theorem dX7_isFine_5 : decode cX7_isFine 5 = .ok (.iaload, 1) := by decide +kernel
theorem dX7_isFine_6 : decode cX7_isFine 6 = .ok (.aload_n 0, 1) := by decide +kernel
theorem dX7_isFine_7 : decode cX7_isFine 7 = .ok (.getfield 22, 3) := by decide +kernel
theorem dX7_isFine_10 : decode cX7_isFine 10 = .ok (.iload_n 2, 1) := by decide +kernel
theorem dX7_isFine_11 : decode cX7_isFine 11 = .ok (.iaload, 1) := by decide +kernel
theorem dX7_isFine_12 : decode cX7_isFine 12 = .ok (.if_icmp .ne 12, 3) := by decide +kernel
theorem dX7_isFine_15 : decode cX7_isFine 15 = .ok (.aload_n 0, 1) := by decide +kernel
theorem dX7_isFine_16 : decode cX7_isFine 16 = .ok (.iload_n 1, 1) := by decide +kernel
theorem dX7_isFine_17 : decode cX7_isFine 17 = .ok (.iload_n 2, 1) := by decide +kernel
theorem dX7_isFine_18 : decode cX7_isFine 18 = .ok (.invokevirtual 179, 3) := by decide +kernel
theorem dX7_isFine_21 : decode cX7_isFine 21 = .ok (.ifCond .ne 7, 3) := by decide +kernel
theorem dX7_isFine_24 : decode cX7_isFine 24 = .ok (.iconst 1, 1) := by decide +kernel
theorem dX7_isFine_25 : decode cX7_isFine 25 = .ok (.goto 4, 3) := by decide +kernel
theorem dX7_isFine_28 : decode cX7_isFine 28 = .ok (.iconst 0, 1) := by decide +kernel
theorem dX7_isFine_29 : decode cX7_isFine 29 = .ok (.istore_n 3, 1) := by decide +kernel
theorem dX7_isFine_30 : decode cX7_isFine 30 = .ok (.iload_n 3, 1) := by decide +kernel
theorem dX7_isFine_31 : decode cX7_isFine 31 = .ok (.ifCond .eq 35, 3) := by decide +kernel
theorem dX7_isFine_34 : decode cX7_isFine 34 = .ok (.aload_n 0, 1) := by decide +kernel
theorem dX7_isFine_35 : decode cX7_isFine 35 = .ok (.getfield 25, 3) := by decide +kernel
theorem dX7_isFine_38 : decode cX7_isFine 38 = .ok (.iload_n 1, 1) := by decide +kernel
theorem dX7_isFine_39 : decode cX7_isFine 39 = .ok (.iaload, 1) := by decide +kernel
theorem dX7_isFine_40 : decode cX7_isFine 40 = .ok (.iload_n 2, 1) := by decide +kernel
theorem dX7_isFine_41 : decode cX7_isFine 41 = .ok (.invokestatic 43, 3) := by decide +kernel
theorem dX7_isFine_44 : decode cX7_isFine 44 = .ok (.ifCond .eq 18, 3) := by decide +kernel
theorem dX7_isFine_47 : decode cX7_isFine 47 = .ok (.aload_n 0, 1) := by decide +kernel
theorem dX7_isFine_48 : decode cX7_isFine 48 = .ok (.getfield 22, 3) := by decide +kernel
theorem dX7_isFine_51 : decode cX7_isFine 51 = .ok (.iload_n 1, 1) := by decide +kernel
theorem dX7_isFine_52 : decode cX7_isFine 52 = .ok (.iaload, 1) := by decide +kernel
theorem dX7_isFine_53 : decode cX7_isFine 53 = .ok (.aload_n 0, 1) := by decide +kernel
theorem dX7_isFine_54 : decode cX7_isFine 54 = .ok (.getfield 22, 3) := by decide +kernel
theorem dX7_isFine_57 : decode cX7_isFine 57 = .ok (.iload_n 2, 1) := by decide +kernel
theorem dX7_isFine_58 : decode cX7_isFine 58 = .ok (.iaload, 1) := by decide +kernel
theorem dX7_isFine_59 : decode cX7_isFine 59 = .ok (.if_icmp .ge 7, 3) := by decide +kernel
theorem dX7_isFine_62 : decode cX7_isFine 62 = .ok (.iconst 1, 1) := by decide +kernel
theorem dX7_isFine_63 : decode cX7_isFine 63 = .ok (.goto 4, 3) := by decide +kernel
theorem dX7_isFine_66 : decode cX7_isFine 66 = .ok (.iconst 0, 1) := by decide +kernel
theorem dX7_isFine_67 : decode cX7_isFine 67 = .ok (.istore_n 3, 1) := by decide +kernel
theorem dX7_isFine_68 : decode cX7_isFine 68 = .ok (.iload_n 3, 1) := by decide +kernel
theorem dX7_isFine_69 : decode cX7_isFine 69 = .ok (.ifCond .eq 35, 3) := by decide +kernel
theorem dX7_isFine_72 : decode cX7_isFine 72 = .ok (.aload_n 0, 1) := by decide +kernel
theorem dX7_isFine_73 : decode cX7_isFine 73 = .ok (.getfield 25, 3) := by decide +kernel
theorem dX7_isFine_76 : decode cX7_isFine 76 = .ok (.iload_n 2, 1) := by decide +kernel
theorem dX7_isFine_77 : decode cX7_isFine 77 = .ok (.iaload, 1) := by decide +kernel
theorem dX7_isFine_78 : decode cX7_isFine 78 = .ok (.iload_n 1, 1) := by decide +kernel
theorem dX7_isFine_79 : decode cX7_isFine 79 = .ok (.invokestatic 43, 3) := by decide +kernel
theorem dX7_isFine_82 : decode cX7_isFine 82 = .ok (.ifCond .eq 18, 3) := by decide +kernel
theorem dX7_isFine_85 : decode cX7_isFine 85 = .ok (.aload_n 0, 1) := by decide +kernel
theorem dX7_isFine_86 : decode cX7_isFine 86 = .ok (.getfield 22, 3) := by decide +kernel
theorem dX7_isFine_89 : decode cX7_isFine 89 = .ok (.iload_n 2, 1) := by decide +kernel
theorem dX7_isFine_90 : decode cX7_isFine 90 = .ok (.iaload, 1) := by decide +kernel
theorem dX7_isFine_91 : decode cX7_isFine 91 = .ok (.aload_n 0, 1) := by decide +kernel
theorem dX7_isFine_92 : decode cX7_isFine 92 = .ok (.getfield 22, 3) := by decide +kernel
theorem dX7_isFine_95 : decode cX7_isFine 95 = .ok (.iload_n 1, 1) := by decide +kernel
theorem dX7_isFine_96 : decode cX7_isFine 96 = .ok (.iaload, 1) := by decide +kernel
theorem dX7_isFine_97 : decode cX7_isFine 97 = .ok (.if_icmp .ge 7, 3) := by decide +kernel
theorem dX7_isFine_100 : decode cX7_isFine 100 = .ok (.iconst 1, 1) := by decide +kernel
theorem dX7_isFine_101 : decode cX7_isFine 101 = .ok (.goto 4, 3) := by decide +kernel
theorem dX7_isFine_104 : decode cX7_isFine 104 = .ok (.iconst 0, 1) := by decide +kernel
theorem dX7_isFine_105 : decode cX7_isFine 105 = .ok (.ireturn, 1) := by decide +kernel
theorem dX7_goesOn_0 : decode cX7_goesOn 0 = .ok (.iconst 1, 1) := by decide +kernel
theorem dX7_goesOn_1 : decode cX7_goesOn 1 = .ok (.istore_n 2, 1) := by decide +kernel
theorem dX7_goesOn_2 : decode cX7_goesOn 2 = .ok (.iconst 0, 1) := by decide +kernel
theorem dX7_goesOn_3 : decode cX7_goesOn 3 = .ok (.istore_n 3, 1) := by decide +kernel
theorem dX7_goesOn_4 : decode cX7_goesOn 4 = .ok (.iload_n 3, 1) := by decide +kernel
theorem dX7_goesOn_5 : decode cX7_goesOn 5 = .ok (.iload_n 1, 1) := by decide +kernel
theorem dX7_goesOn_6 : decode cX7_goesOn 6 = .ok (.if_icmp .ge 28, 3) := by decide +kernel
theorem dX7_goesOn_9 : decode cX7_goesOn 9 = .ok (.iload_n 2, 1) := by decide +kernel
theorem dX7_goesOn_10 : decode cX7_goesOn 10 = .ok (.ifCond .eq 16, 3) := by decide +kernel
theorem dX7_goesOn_13 : decode cX7_goesOn 13 = .ok (.aload_n 0, 1) := by decide +kernel
theorem dX7_goesOn_14 : decode cX7_goesOn 14 = .ok (.iload_n 3, 1) := by decide +kernel
theorem dX7_goesOn_15 : decode cX7_goesOn 15 = .ok (.iload_n 1, 1) := by decide +kernel
theorem dX7_goesOn_16 : decode cX7_goesOn 16 = .ok (.invokevirtual 182, 3) := by decide +kernel
theorem dX7_goesOn_19 : decode cX7_goesOn 19 = .ok (.ifCond .eq 7, 3) := by decide +kernel
theorem dX7_goesOn_22 : decode cX7_goesOn 22 = .ok (.iconst 1, 1) := by decide +kernel
theorem dX7_goesOn_23 : decode cX7_goesOn 23 = .ok (.goto 4, 3) := by decide +kernel
theorem dX7_goesOn_26 : decode cX7_goesOn 26 = .ok (.iconst 0, 1) := by decide +kernel
theorem dX7_goesOn_27 : decode cX7_goesOn 27 = .ok (.istore_n 2, 1) := by decide +kernel
theorem dX7_goesOn_28 : decode cX7_goesOn 28 = .ok (.iinc 3 1, 3) := by decide +kernel
theorem dX7_goesOn_31 : decode cX7_goesOn 31 = .ok (.goto (-27), 3) := by decide +kernel
theorem dX7_goesOn_34 : decode cX7_goesOn 34 = .ok (.iload_n 2, 1) := by decide +kernel
theorem dX7_goesOn_35 : decode cX7_goesOn 35 = .ok (.ireturn, 1) := by decide +kernel
theorem dX7_findPlan_0 : decode cX7_findPlan 0 = .ok (.aload_n 0, 1) := by decide +kernel
theorem dX7_findPlan_1 : decode cX7_findPlan 1 = .ok (.invokevirtual 278, 3) := by decide +kernel
theorem dX7_findPlan_4 : decode cX7_findPlan 4 = .ok (.pop, 1) := by decide +kernel
theorem dX7_findPlan_5 : decode cX7_findPlan 5 = .ok (.iconst 0, 1) := by decide +kernel
theorem dX7_findPlan_6 : decode cX7_findPlan 6 = .ok (.istore_n 2, 1) := by decide +kernel
theorem dX7_findPlan_7 : decode cX7_findPlan 7 = .ok (.iload_n 2, 1) := by decide +kernel
theorem dX7_findPlan_8 : decode cX7_findPlan 8 = .ok (.ifCond .lt 81, 3) := by decide +kernel
theorem dX7_findPlan_11 : decode cX7_findPlan 11 = .ok (.iload_n 2, 1) := by decide +kernel
theorem dX7_findPlan_12 : decode cX7_findPlan 12 = .ok (.aload_n 0, 1) := by decide +kernel
theorem dX7_findPlan_13 : decode cX7_findPlan 13 = .ok (.getfield 130, 3) := by decide +kernel
theorem dX7_findPlan_16 : decode cX7_findPlan 16 = .ok (.if_icmp .ge 73, 3) := by decide +kernel
theorem dX7_findPlan_19 : decode cX7_findPlan 19 = .ok (.aload_n 0, 1) := by decide +kernel
theorem dX7_findPlan_20 : decode cX7_findPlan 20 = .ok (.getfield 22, 3) := by decide +kernel
theorem dX7_findPlan_23 : decode cX7_findPlan 23 = .ok (.iload_n 2, 1) := by decide +kernel
theorem dX7_findPlan_24 : decode cX7_findPlan 24 = .ok (.dup2, 1) := by decide +kernel
theorem dX7_findPlan_25 : decode cX7_findPlan 25 = .ok (.iaload, 1) := by decide +kernel
theorem dX7_findPlan_26 : decode cX7_findPlan 26 = .ok (.iconst 1, 1) := by decide +kernel
theorem dX7_findPlan_27 : decode cX7_findPlan 27 = .ok (.iadd, 1) := by decide +kernel
theorem dX7_findPlan_28 : decode cX7_findPlan 28 = .ok (.iastore, 1) := by decide +kernel
theorem dX7_findPlan_29 : decode cX7_findPlan 29 = .ok (.aload_n 0, 1) := by decide +kernel
theorem dX7_findPlan_30 : decode cX7_findPlan 30 = .ok (.getfield 22, 3) := by decide +kernel
theorem dX7_findPlan_33 : decode cX7_findPlan 33 = .ok (.iload_n 2, 1) := by decide +kernel
theorem dX7_findPlan_34 : decode cX7_findPlan 34 = .ok (.iaload, 1) := by decide +kernel
theorem dX7_findPlan_35 : decode cX7_findPlan 35 = .ok (.iload_n 1, 1) := by decide +kernel
theorem dX7_findPlan_36 : decode cX7_findPlan 36 = .ok (.if_icmp .ge 24, 3) := by decide +kernel
theorem dX7_findPlan_39 : decode cX7_findPlan 39 = .ok (.aload_n 0, 1) := by decide +kernel
theorem dX7_findPlan_40 : decode cX7_findPlan 40 = .ok (.iload_n 2, 1) := by decide +kernel
theorem dX7_findPlan_41 : decode cX7_findPlan 41 = .ok (.invokevirtual 287, 3) := by decide +kernel
theorem dX7_findPlan_44 : decode cX7_findPlan 44 = .ok (.ifCond .ne 16, 3) := by decide +kernel
theorem dX7_findPlan_47 : decode cX7_findPlan 47 = .ok (.aload_n 0, 1) := by decide +kernel
theorem dX7_findPlan_48 : decode cX7_findPlan 48 = .ok (.getfield 22, 3) := by decide +kernel
theorem dX7_findPlan_51 : decode cX7_findPlan 51 = .ok (.iload_n 2, 1) := by decide +kernel
theorem dX7_findPlan_52 : decode cX7_findPlan 52 = .ok (.dup2, 1) := by decide +kernel
theorem dX7_findPlan_53 : decode cX7_findPlan 53 = .ok (.iaload, 1) := by decide +kernel
theorem dX7_findPlan_54 : decode cX7_findPlan 54 = .ok (.iconst 1, 1) := by decide +kernel
theorem dX7_findPlan_55 : decode cX7_findPlan 55 = .ok (.iadd, 1) := by decide +kernel
theorem dX7_findPlan_56 : decode cX7_findPlan 56 = .ok (.iastore, 1) := by decide +kernel
theorem dX7_findPlan_57 : decode cX7_findPlan 57 = .ok (.goto (-28), 3) := by decide +kernel
theorem dX7_findPlan_60 : decode cX7_findPlan 60 = .ok (.aload_n 0, 1) := by decide +kernel
theorem dX7_findPlan_61 : decode cX7_findPlan 61 = .ok (.getfield 22, 3) := by decide +kernel
theorem dX7_findPlan_64 : decode cX7_findPlan 64 = .ok (.iload_n 2, 1) := by decide +kernel
theorem dX7_findPlan_65 : decode cX7_findPlan 65 = .ok (.iaload, 1) := by decide +kernel
theorem dX7_findPlan_66 : decode cX7_findPlan 66 = .ok (.iload_n 1, 1) := by decide +kernel
theorem dX7_findPlan_67 : decode cX7_findPlan 67 = .ok (.if_icmp .ge 9, 3) := by decide +kernel
theorem dX7_findPlan_70 : decode cX7_findPlan 70 = .ok (.iinc 2 1, 3) := by decide +kernel
theorem dX7_findPlan_73 : decode cX7_findPlan 73 = .ok (.goto (-66), 3) := by decide +kernel
theorem dX7_findPlan_76 : decode cX7_findPlan 76 = .ok (.aload_n 0, 1) := by decide +kernel
theorem dX7_findPlan_77 : decode cX7_findPlan 77 = .ok (.getfield 22, 3) := by decide +kernel
theorem dX7_findPlan_80 : decode cX7_findPlan 80 = .ok (.iload_n 2, 1) := by decide +kernel
theorem dX7_findPlan_81 : decode cX7_findPlan 81 = .ok (.iconst (-1), 1) := by decide +kernel
theorem dX7_findPlan_82 : decode cX7_findPlan 82 = .ok (.iastore, 1) := by decide +kernel
theorem dX7_findPlan_83 : decode cX7_findPlan 83 = .ok (.iinc 2 (-1), 3) := by decide +kernel
theorem dX7_findPlan_86 : decode cX7_findPlan 86 = .ok (.goto (-79), 3) := by decide +kernel
theorem dX7_findPlan_89 : decode cX7_findPlan 89 = .ok (.iload_n 2, 1) := by decide +kernel
theorem dX7_findPlan_90 : decode cX7_findPlan 90 = .ok (.aload_n 0, 1) := by decide +kernel
theorem dX7_findPlan_91 : decode cX7_findPlan 91 = .ok (.getfield 130, 3) := by decide +kernel
theorem dX7_findPlan_94 : decode cX7_findPlan 94 = .ok (.if_icmp .ne 7, 3) := by decide +kernel
theorem dX7_findPlan_97 : decode cX7_findPlan 97 = .ok (.iconst 1, 1) := by decide +kernel
theorem dX7_findPlan_98 : decode cX7_findPlan 98 = .ok (.goto 4, 3) := by decide +kernel
theorem dX7_findPlan_101 : decode cX7_findPlan 101 = .ok (.iconst 0, 1) := by decide +kernel
theorem dX7_findPlan_102 : decode cX7_findPlan 102 = .ok (.ireturn, 1) := by decide +kernel
theorem dX7_best_0 : decode cX7_best 0 = .ok (.aload_n 0, 1) := by decide +kernel
theorem dX7_best_1 : decode cX7_best 1 = .ok (.invokevirtual 197, 3) := by decide +kernel
theorem dX7_best_4 : decode cX7_best 4 = .ok (.ifCond .eq 28, 3) := by decide +kernel
theorem dX7_best_7 : decode cX7_best 7 = .ok (.aload_n 0, 1) := by decide +kernel
theorem dX7_best_8 : decode cX7_best 8 = .ok (.getfield 156, 3) := by decide +kernel
theorem dX7_best_11 : decode cX7_best 11 = .ok (.ifCond .gt 21, 3) := by decide +kernel
theorem dX7_best_14 : decode cX7_best 14 = .ok (.aload_n 0, 1) := by decide +kernel
theorem dX7_best_15 : decode cX7_best 15 = .ok (.getfield 130, 3) := by decide +kernel
theorem dX7_best_18 : decode cX7_best 18 = .ok (.bipush 8, 2) := by decide +kernel
theorem dX7_best_20 : decode cX7_best 20 = .ok (.if_icmp .gt 12, 3) := by decide +kernel
theorem dX7_best_23 : decode cX7_best 23 = .ok (.aload_n 0, 1) := by decide +kernel
theorem dX7_best_24 : decode cX7_best 24 = .ok (.getfield 290, 3) := by decide +kernel
theorem dX7_best_27 : decode cX7_best 27 = .ok (.bipush 20, 2) := by decide +kernel
theorem dX7_best_29 : decode cX7_best 29 = .ok (.if_icmp .ne 6, 3) := by decide +kernel
theorem dX7_best_32 : decode cX7_best 32 = .ok (.bipush (-103), 2) := by decide +kernel
theorem dX7_best_34 : decode cX7_best 34 = .ok (.ireturn, 1) := by decide +kernel
theorem dX7_best_35 : decode cX7_best 35 = .ok (.aload_n 0, 1) := by decide +kernel
theorem dX7_best_36 : decode cX7_best 36 = .ok (.dup, 1) := by decide +kernel
theorem dX7_best_37 : decode cX7_best 37 = .ok (.getfield 290, 3) := by decide +kernel
theorem dX7_best_40 : decode cX7_best 40 = .ok (.iconst 1, 1) := by decide +kernel
theorem dX7_best_41 : decode cX7_best 41 = .ok (.iadd, 1) := by decide +kernel
theorem dX7_best_42 : decode cX7_best 42 = .ok (.putfield 290, 3) := by decide +kernel
theorem dX7_best_45 : decode cX7_best 45 = .ok (.iconst 0, 1) := by decide +kernel
theorem dX7_best_46 : decode cX7_best 46 = .ok (.istore_n 1, 1) := by decide +kernel
theorem dX7_best_47 : decode cX7_best 47 = .ok (.aload_n 0, 1) := by decide +kernel
theorem dX7_best_48 : decode cX7_best 48 = .ok (.iload_n 1, 1) := by decide +kernel
theorem dX7_best_49 : decode cX7_best 49 = .ok (.invokevirtual 293, 3) := by decide +kernel
theorem dX7_best_52 : decode cX7_best 52 = .ok (.ifCond .ne 9, 3) := by decide +kernel
theorem dX7_best_55 : decode cX7_best 55 = .ok (.iinc 1 1, 3) := by decide +kernel
theorem dX7_best_58 : decode cX7_best 58 = .ok (.goto (-11), 3) := by decide +kernel
theorem dX7_best_61 : decode cX7_best 61 = .ok (.iload_n 1, 1) := by decide +kernel
theorem dX7_best_62 : decode cX7_best 62 = .ok (.ireturn, 1) := by decide +kernel
theorem dX7_clear_0 : decode cX7_clear 0 = .ok (.aload_n 0, 1) := by decide +kernel
theorem dX7_clear_1 : decode cX7_clear 1 = .ok (.invokevirtual 197, 3) := by decide +kernel
theorem dX7_clear_4 : decode cX7_clear 4 = .ok (.ifCond .eq 10, 3) := by decide +kernel
theorem dX7_clear_7 : decode cX7_clear 7 = .ok (.aload_n 0, 1) := by decide +kernel
theorem dX7_clear_8 : decode cX7_clear 8 = .ok (.invokevirtual 278, 3) := by decide +kernel
theorem dX7_clear_11 : decode cX7_clear 11 = .ok (.goto 5, 3) := by decide +kernel
theorem dX7_clear_14 : decode cX7_clear 14 = .ok (.bipush (-103), 2) := by decide +kernel
theorem dX7_clear_16 : decode cX7_clear 16 = .ok (.ireturn, 1) := by decide +kernel
theorem dX7_cut_0 : decode cX7_cut 0 = .ok (.aload_n 0, 1) := by decide +kernel
theorem dX7_cut_1 : decode cX7_cut 1 = .ok (.invokevirtual 197, 3) := by decide +kernel
theorem dX7_cut_4 : decode cX7_cut 4 = .ok (.ifCond .eq 12, 3) := by decide +kernel
theorem dX7_cut_7 : decode cX7_cut 7 = .ok (.iload_n 1, 1) := by decide +kernel
theorem dX7_cut_8 : decode cX7_cut 8 = .ok (.iconst 0, 1) := by decide +kernel
theorem dX7_cut_9 : decode cX7_cut 9 = .ok (.iconst 5, 1) := by decide +kernel
theorem dX7_cut_10 : decode cX7_cut 10 = .ok (.invokestatic 47, 3) := by decide +kernel
theorem dX7_cut_13 : decode cX7_cut 13 = .ok (.ifCond .ne 6, 3) := by decide +kernel
theorem dX7_cut_16 : decode cX7_cut 16 = .ok (.bipush (-101), 2) := by decide +kernel
theorem dX7_cut_18 : decode cX7_cut 18 = .ok (.ireturn, 1) := by decide +kernel
theorem dX7_cut_19 : decode cX7_cut 19 = .ok (.aload_n 0, 1) := by decide +kernel
theorem dX7_cut_20 : decode cX7_cut 20 = .ok (.getfield 93, 3) := by decide +kernel
theorem dX7_cut_23 : decode cX7_cut 23 = .ok (.iload_n 1, 1) := by decide +kernel
theorem dX7_cut_24 : decode cX7_cut 24 = .ok (.invokestatic 43, 3) := by decide +kernel
theorem dX7_cut_27 : decode cX7_cut 27 = .ok (.iload_n 2, 1) := by decide +kernel
theorem dX7_cut_28 : decode cX7_cut 28 = .ok (.if_icmp .ne 6, 3) := by decide +kernel
theorem dX7_cut_31 : decode cX7_cut 31 = .ok (.bipush (-103), 2) := by decide +kernel
theorem dX7_cut_33 : decode cX7_cut 33 = .ok (.ireturn, 1) := by decide +kernel
theorem dX7_cut_34 : decode cX7_cut 34 = .ok (.aload_n 0, 1) := by decide +kernel
theorem dX7_cut_35 : decode cX7_cut 35 = .ok (.dup, 1) := by decide +kernel
theorem dX7_cut_36 : decode cX7_cut 36 = .ok (.getfield 93, 3) := by decide +kernel
theorem dX7_cut_39 : decode cX7_cut 39 = .ok (.iconst 1, 1) := by decide +kernel
theorem dX7_cut_40 : decode cX7_cut 40 = .ok (.iload_n 1, 1) := by decide +kernel
theorem dX7_cut_41 : decode cX7_cut 41 = .ok (.ishl, 1) := by decide +kernel
theorem dX7_cut_42 : decode cX7_cut 42 = .ok (.ixor, 1) := by decide +kernel
theorem dX7_cut_43 : decode cX7_cut 43 = .ok (.putfield 93, 3) := by decide +kernel
theorem dX7_cut_46 : decode cX7_cut 46 = .ok (.aload_n 0, 1) := by decide +kernel
theorem dX7_cut_47 : decode cX7_cut 47 = .ok (.invokevirtual 99, 3) := by decide +kernel
theorem dX7_cut_50 : decode cX7_cut 50 = .ok (.aload_n 0, 1) := by decide +kernel
theorem dX7_cut_51 : decode cX7_cut 51 = .ok (.getfield 130, 3) := by decide +kernel
theorem dX7_cut_54 : decode cX7_cut 54 = .ok (.ireturn, 1) := by decide +kernel
theorem dX7_isColumn_0 : decode cX7_isColumn 0 = .ok (.iload_n 1, 1) := by decide +kernel
theorem dX7_isColumn_1 : decode cX7_isColumn 1 = .ok (.iconst 0, 1) := by decide +kernel
theorem dX7_isColumn_2 : decode cX7_isColumn 2 = .ok (.aload_n 0, 1) := by decide +kernel
theorem dX7_isColumn_3 : decode cX7_isColumn 3 = .ok (.getfield 87, 3) := by decide +kernel
theorem dX7_isColumn_6 : decode cX7_isColumn 6 = .ok (.iconst 1, 1) := by decide +kernel
theorem dX7_isColumn_7 : decode cX7_isColumn 7 = .ok (.isub, 1) := by decide +kernel
theorem dX7_isColumn_8 : decode cX7_isColumn 8 = .ok (.invokestatic 47, 3) := by decide +kernel
theorem dX7_isColumn_11 : decode cX7_isColumn 11 = .ok (.ireturn, 1) := by decide +kernel
theorem dX7_turn_0 : decode cX7_turn 0 = .ok (.aload_n 0, 1) := by decide +kernel
theorem dX7_turn_1 : decode cX7_turn 1 = .ok (.iload_n 1, 1) := by decide +kernel
theorem dX7_turn_2 : decode cX7_turn 2 = .ok (.invokevirtual 242, 3) := by decide +kernel
theorem dX7_turn_5 : decode cX7_turn 5 = .ok (.ifCond .ne 6, 3) := by decide +kernel
theorem dX7_turn_8 : decode cX7_turn 8 = .ok (.bipush (-101), 2) := by decide +kernel
theorem dX7_turn_10 : decode cX7_turn 10 = .ok (.ireturn, 1) := by decide +kernel
theorem dX7_turn_11 : decode cX7_turn 11 = .ok (.aload_n 0, 1) := by decide +kernel
theorem dX7_turn_12 : decode cX7_turn 12 = .ok (.iload_n 1, 1) := by decide +kernel
theorem dX7_turn_13 : decode cX7_turn 13 = .ok (.invokevirtual 124, 3) := by decide +kernel
theorem dX7_turn_16 : decode cX7_turn 16 = .ok (.istore_n 2, 1) := by decide +kernel
theorem dX7_turn_17 : decode cX7_turn 17 = .ok (.aload_n 0, 1) := by decide +kernel
theorem dX7_turn_18 : decode cX7_turn 18 = .ok (.getfield 7, 3) := by decide +kernel
theorem dX7_turn_21 : decode cX7_turn 21 = .ok (.iconst 2, 1) := by decide +kernel
theorem dX7_turn_22 : decode cX7_turn 22 = .ok (.iload_n 1, 1) := by decide +kernel
theorem dX7_turn_23 : decode cX7_turn 23 = .ok (.imul, 1) := by decide +kernel
theorem dX7_turn_24 : decode cX7_turn 24 = .ok (.aload_n 0, 1) := by decide +kernel
theorem dX7_turn_25 : decode cX7_turn 25 = .ok (.iload_n 1, 1) := by decide +kernel
theorem dX7_turn_26 : decode cX7_turn 26 = .ok (.invokevirtual 127, 3) := by decide +kernel
theorem dX7_turn_29 : decode cX7_turn 29 = .ok (.iastore, 1) := by decide +kernel
theorem dX7_turn_30 : decode cX7_turn 30 = .ok (.aload_n 0, 1) := by decide +kernel
theorem dX7_turn_31 : decode cX7_turn 31 = .ok (.getfield 7, 3) := by decide +kernel
theorem dX7_turn_34 : decode cX7_turn 34 = .ok (.iconst 2, 1) := by decide +kernel
theorem dX7_turn_35 : decode cX7_turn 35 = .ok (.iload_n 1, 1) := by decide +kernel
theorem dX7_turn_36 : decode cX7_turn 36 = .ok (.imul, 1) := by decide +kernel
theorem dX7_turn_37 : decode cX7_turn 37 = .ok (.iconst 1, 1) := by decide +kernel
theorem dX7_turn_38 : decode cX7_turn 38 = .ok (.iadd, 1) := by decide +kernel
theorem dX7_turn_39 : decode cX7_turn 39 = .ok (.iload_n 2, 1) := by decide +kernel
theorem dX7_turn_40 : decode cX7_turn 40 = .ok (.iastore, 1) := by decide +kernel
theorem dX7_turn_41 : decode cX7_turn 41 = .ok (.aload_n 0, 1) := by decide +kernel
theorem dX7_turn_42 : decode cX7_turn 42 = .ok (.invokevirtual 99, 3) := by decide +kernel
theorem dX7_turn_45 : decode cX7_turn 45 = .ok (.aload_n 0, 1) := by decide +kernel
theorem dX7_turn_46 : decode cX7_turn 46 = .ok (.iload_n 1, 1) := by decide +kernel
theorem dX7_turn_47 : decode cX7_turn 47 = .ok (.invokevirtual 124, 3) := by decide +kernel
theorem dX7_turn_50 : decode cX7_turn 50 = .ok (.ireturn, 1) := by decide +kernel
theorem dX7_saidNow_0 : decode cX7_saidNow 0 = .ok (.iload_n 1, 1) := by decide +kernel
theorem dX7_saidNow_1 : decode cX7_saidNow 1 = .ok (.tableswitch 81 0 4 #[35, 40, 45, 50, 65], 35) := by decide +kernel
theorem dX7_saidNow_36 : decode cX7_saidNow 36 = .ok (.aload_n 0, 1) := by decide +kernel
theorem dX7_saidNow_37 : decode cX7_saidNow 37 = .ok (.invokevirtual 102, 3) := by decide +kernel
theorem dX7_saidNow_40 : decode cX7_saidNow 40 = .ok (.ireturn, 1) := by decide +kernel
theorem dX7_saidNow_41 : decode cX7_saidNow 41 = .ok (.aload_n 0, 1) := by decide +kernel
theorem dX7_saidNow_42 : decode cX7_saidNow 42 = .ok (.invokevirtual 105, 3) := by decide +kernel
theorem dX7_saidNow_45 : decode cX7_saidNow 45 = .ok (.ireturn, 1) := by decide +kernel
theorem dX7_saidNow_46 : decode cX7_saidNow 46 = .ok (.aload_n 0, 1) := by decide +kernel
theorem dX7_saidNow_47 : decode cX7_saidNow 47 = .ok (.invokevirtual 108, 3) := by decide +kernel
theorem dX7_saidNow_50 : decode cX7_saidNow 50 = .ok (.ireturn, 1) := by decide +kernel
theorem dX7_saidNow_51 : decode cX7_saidNow 51 = .ok (.aload_n 0, 1) := by decide +kernel
theorem dX7_saidNow_52 : decode cX7_saidNow 52 = .ok (.aload_n 0, 1) := by decide +kernel
theorem dX7_saidNow_53 : decode cX7_saidNow 53 = .ok (.getfield 34, 3) := by decide +kernel
theorem dX7_saidNow_56 : decode cX7_saidNow 56 = .ok (.iconst 4, 1) := by decide +kernel
theorem dX7_saidNow_57 : decode cX7_saidNow 57 = .ok (.iaload, 1) := by decide +kernel
theorem dX7_saidNow_58 : decode cX7_saidNow 58 = .ok (.bipush 97, 2) := by decide +kernel
theorem dX7_saidNow_60 : decode cX7_saidNow 60 = .ok (.isub, 1) := by decide +kernel
theorem dX7_saidNow_61 : decode cX7_saidNow 61 = .ok (.iconst 1, 1) := by decide +kernel
theorem dX7_saidNow_62 : decode cX7_saidNow 62 = .ok (.invokevirtual 111, 3) := by decide +kernel
theorem dX7_saidNow_65 : decode cX7_saidNow 65 = .ok (.ireturn, 1) := by decide +kernel
theorem dX7_saidNow_66 : decode cX7_saidNow 66 = .ok (.aload_n 0, 1) := by decide +kernel
theorem dX7_saidNow_67 : decode cX7_saidNow 67 = .ok (.aload_n 0, 1) := by decide +kernel
theorem dX7_saidNow_68 : decode cX7_saidNow 68 = .ok (.getfield 34, 3) := by decide +kernel
theorem dX7_saidNow_71 : decode cX7_saidNow 71 = .ok (.bipush 6, 2) := by decide +kernel
theorem dX7_saidNow_73 : decode cX7_saidNow 73 = .ok (.iaload, 1) := by decide +kernel
theorem dX7_saidNow_74 : decode cX7_saidNow 74 = .ok (.bipush 97, 2) := by decide +kernel
theorem dX7_saidNow_76 : decode cX7_saidNow 76 = .ok (.isub, 1) := by decide +kernel
theorem dX7_saidNow_77 : decode cX7_saidNow 77 = .ok (.iconst 0, 1) := by decide +kernel
theorem dX7_saidNow_78 : decode cX7_saidNow 78 = .ok (.invokevirtual 111, 3) := by decide +kernel
theorem dX7_saidNow_81 : decode cX7_saidNow 81 = .ok (.ireturn, 1) := by decide +kernel
theorem dX7_saidNow_82 : decode cX7_saidNow 82 = .ok (.aload_n 0, 1) := by decide +kernel
theorem dX7_saidNow_83 : decode cX7_saidNow 83 = .ok (.aload_n 0, 1) := by decide +kernel
theorem dX7_saidNow_84 : decode cX7_saidNow 84 = .ok (.getfield 34, 3) := by decide +kernel
theorem dX7_saidNow_87 : decode cX7_saidNow 87 = .ok (.iconst 5, 1) := by decide +kernel
theorem dX7_saidNow_88 : decode cX7_saidNow 88 = .ok (.iaload, 1) := by decide +kernel
theorem dX7_saidNow_89 : decode cX7_saidNow 89 = .ok (.bipush 48, 2) := by decide +kernel
theorem dX7_saidNow_91 : decode cX7_saidNow 91 = .ok (.isub, 1) := by decide +kernel
theorem dX7_saidNow_92 : decode cX7_saidNow 92 = .ok (.invokevirtual 115, 3) := by decide +kernel
theorem dX7_saidNow_95 : decode cX7_saidNow 95 = .ok (.ireturn, 1) := by decide +kernel
theorem dX7_say_0 : decode cX7_say 0 = .ok (.aload_n 0, 1) := by decide +kernel
theorem dX7_say_1 : decode cX7_say 1 = .ok (.invokevirtual 118, 3) := by decide +kernel
theorem dX7_say_4 : decode cX7_say 4 = .ok (.istore_n 1, 1) := by decide +kernel
theorem dX7_say_5 : decode cX7_say 5 = .ok (.iload_n 1, 1) := by decide +kernel
theorem dX7_say_6 : decode cX7_say 6 = .ok (.iconst (-1), 1) := by decide +kernel
theorem dX7_say_7 : decode cX7_say 7 = .ok (.if_icmp .ne 6, 3) := by decide +kernel
theorem dX7_say_10 : decode cX7_say 10 = .ok (.bipush (-103), 2) := by decide +kernel
theorem dX7_say_12 : decode cX7_say 12 = .ok (.ireturn, 1) := by decide +kernel
theorem dX7_say_13 : decode cX7_say 13 = .ok (.aload_n 0, 1) := by decide +kernel
theorem dX7_say_14 : decode cX7_say 14 = .ok (.iload_n 1, 1) := by decide +kernel
theorem dX7_say_15 : decode cX7_say 15 = .ok (.invokevirtual 121, 3) := by decide +kernel
theorem dX7_say_18 : decode cX7_say 18 = .ok (.istore_n 2, 1) := by decide +kernel
theorem dX7_say_19 : decode cX7_say 19 = .ok (.iload_n 2, 1) := by decide +kernel
theorem dX7_say_20 : decode cX7_say 20 = .ok (.iconst (-1), 1) := by decide +kernel
theorem dX7_say_21 : decode cX7_say 21 = .ok (.if_icmp .lt 8, 3) := by decide +kernel
theorem dX7_say_24 : decode cX7_say 24 = .ok (.aload_n 0, 1) := by decide +kernel
theorem dX7_say_25 : decode cX7_say 25 = .ok (.iconst 0, 1) := by decide +kernel
theorem dX7_say_26 : decode cX7_say 26 = .ok (.putfield 51, 3) := by decide +kernel
theorem dX7_say_29 : decode cX7_say 29 = .ok (.iload_n 2, 1) := by decide +kernel
theorem dX7_say_30 : decode cX7_say 30 = .ok (.ireturn, 1) := by decide +kernel
theorem dX7_fits_0 : decode cX7_fits 0 = .ok (.iconst 1, 1) := by decide +kernel
theorem dX7_fits_1 : decode cX7_fits 1 = .ok (.istore_n 1, 1) := by decide +kernel
theorem dX7_fits_2 : decode cX7_fits 2 = .ok (.iconst 0, 1) := by decide +kernel
theorem dX7_fits_3 : decode cX7_fits 3 = .ok (.istore_n 2, 1) := by decide +kernel
theorem dX7_fits_4 : decode cX7_fits 4 = .ok (.iload_n 2, 1) := by decide +kernel
theorem dX7_fits_5 : decode cX7_fits 5 = .ok (.aload_n 0, 1) := by decide +kernel
theorem dX7_fits_6 : decode cX7_fits 6 = .ok (.getfield 130, 3) := by decide +kernel
theorem dX7_fits_9 : decode cX7_fits 9 = .ok (.if_icmp .ge 64, 3) := by decide +kernel
theorem dX7_fits_12 : decode cX7_fits 12 = .ok (.iload_n 1, 1) := by decide +kernel
theorem dX7_fits_13 : decode cX7_fits 13 = .ok (.ifCond .eq 17, 3) := by decide +kernel
theorem dX7_fits_16 : decode cX7_fits 16 = .ok (.aload_n 0, 1) := by decide +kernel
theorem dX7_fits_17 : decode cX7_fits 17 = .ok (.getfield 22, 3) := by decide +kernel
theorem dX7_fits_20 : decode cX7_fits 20 = .ok (.iload_n 2, 1) := by decide +kernel
theorem dX7_fits_21 : decode cX7_fits 21 = .ok (.iaload, 1) := by decide +kernel
theorem dX7_fits_22 : decode cX7_fits 22 = .ok (.iconst (-1), 1) := by decide +kernel
theorem dX7_fits_23 : decode cX7_fits 23 = .ok (.if_icmp .eq 7, 3) := by decide +kernel
theorem dX7_fits_26 : decode cX7_fits 26 = .ok (.iconst 1, 1) := by decide +kernel
theorem dX7_fits_27 : decode cX7_fits 27 = .ok (.goto 4, 3) := by decide +kernel
theorem dX7_fits_30 : decode cX7_fits 30 = .ok (.iconst 0, 1) := by decide +kernel
theorem dX7_fits_31 : decode cX7_fits 31 = .ok (.istore_n 1, 1) := by decide +kernel
theorem dX7_fits_32 : decode cX7_fits 32 = .ok (.iconst 0, 1) := by decide +kernel
theorem dX7_fits_33 : decode cX7_fits 33 = .ok (.istore_n 3, 1) := by decide +kernel
theorem dX7_fits_34 : decode cX7_fits 34 = .ok (.iload_n 3, 1) := by decide +kernel
theorem dX7_fits_35 : decode cX7_fits 35 = .ok (.aload_n 0, 1) := by decide +kernel
theorem dX7_fits_36 : decode cX7_fits 36 = .ok (.getfield 130, 3) := by decide +kernel
theorem dX7_fits_39 : decode cX7_fits 39 = .ok (.if_icmp .ge 28, 3) := by decide +kernel
theorem dX7_fits_42 : decode cX7_fits 42 = .ok (.iload_n 1, 1) := by decide +kernel
theorem dX7_fits_43 : decode cX7_fits 43 = .ok (.ifCond .eq 16, 3) := by decide +kernel
theorem dX7_fits_46 : decode cX7_fits 46 = .ok (.aload_n 0, 1) := by decide +kernel
theorem dX7_fits_47 : decode cX7_fits 47 = .ok (.iload_n 2, 1) := by decide +kernel
theorem dX7_fits_48 : decode cX7_fits 48 = .ok (.iload_n 3, 1) := by decide +kernel
theorem dX7_fits_49 : decode cX7_fits 49 = .ok (.invokevirtual 182, 3) := by decide +kernel
theorem dX7_fits_52 : decode cX7_fits 52 = .ok (.ifCond .eq 7, 3) := by decide +kernel
theorem dX7_fits_55 : decode cX7_fits 55 = .ok (.iconst 1, 1) := by decide +kernel
theorem dX7_fits_56 : decode cX7_fits 56 = .ok (.goto 4, 3) := by decide +kernel
theorem dX7_fits_59 : decode cX7_fits 59 = .ok (.iconst 0, 1) := by decide +kernel
theorem dX7_fits_60 : decode cX7_fits 60 = .ok (.istore_n 1, 1) := by decide +kernel
theorem dX7_fits_61 : decode cX7_fits 61 = .ok (.iinc 3 1, 3) := by decide +kernel
theorem dX7_fits_64 : decode cX7_fits 64 = .ok (.goto (-30), 3) := by decide +kernel
theorem dX7_fits_67 : decode cX7_fits 67 = .ok (.iinc 2 1, 3) := by decide +kernel
theorem dX7_fits_70 : decode cX7_fits 70 = .ok (.goto (-66), 3) := by decide +kernel
theorem dX7_fits_73 : decode cX7_fits 73 = .ok (.iload_n 1, 1) := by decide +kernel
theorem dX7_fits_74 : decode cX7_fits 74 = .ok (.ireturn, 1) := by decide +kernel
theorem dX7_flat_0 : decode cX7_flat 0 = .ok (.iconst 0, 1) := by decide +kernel
theorem dX7_flat_1 : decode cX7_flat 1 = .ok (.istore_n 3, 1) := by decide +kernel
theorem dX7_flat_2 : decode cX7_flat 2 = .ok (.iconst 0, 1) := by decide +kernel
theorem dX7_flat_3 : decode cX7_flat 3 = .ok (.istore 4, 2) := by decide +kernel
theorem dX7_flat_5 : decode cX7_flat 5 = .ok (.iload 4, 2) := by decide +kernel
theorem dX7_flat_7 : decode cX7_flat 7 = .ok (.aload_n 0, 1) := by decide +kernel
theorem dX7_flat_8 : decode cX7_flat 8 = .ok (.getfield 130, 3) := by decide +kernel
theorem dX7_flat_11 : decode cX7_flat 11 = .ok (.if_icmp .ge 46, 3) := by decide +kernel
theorem dX7_flat_14 : decode cX7_flat 14 = .ok (.iload_n 3, 1) := by decide +kernel
theorem dX7_flat_15 : decode cX7_flat 15 = .ok (.aload_n 0, 1) := by decide +kernel
theorem dX7_flat_16 : decode cX7_flat 16 = .ok (.getfield 22, 3) := by decide +kernel
theorem dX7_flat_19 : decode cX7_flat 19 = .ok (.iload 4, 2) := by decide +kernel
theorem dX7_flat_21 : decode cX7_flat 21 = .ok (.iaload, 1) := by decide +kernel
theorem dX7_flat_22 : decode cX7_flat 22 = .ok (.iload_n 1, 1) := by decide +kernel
theorem dX7_flat_23 : decode cX7_flat 23 = .ok (.if_icmp .ne 25, 3) := by decide +kernel
theorem dX7_flat_26 : decode cX7_flat 26 = .ok (.aload_n 0, 1) := by decide +kernel
theorem dX7_flat_27 : decode cX7_flat 27 = .ok (.iload 4, 2) := by decide +kernel
theorem dX7_flat_29 : decode cX7_flat 29 = .ok (.iload_n 2, 1) := by decide +kernel
theorem dX7_flat_30 : decode cX7_flat 30 = .ok (.invokevirtual 140, 3) := by decide +kernel
theorem dX7_flat_33 : decode cX7_flat 33 = .ok (.ifCond .eq 15, 3) := by decide +kernel
theorem dX7_flat_36 : decode cX7_flat 36 = .ok (.iconst 1, 1) := by decide +kernel
theorem dX7_flat_37 : decode cX7_flat 37 = .ok (.aload_n 0, 1) := by decide +kernel
theorem dX7_flat_38 : decode cX7_flat 38 = .ok (.getfield 13, 3) := by decide +kernel
theorem dX7_flat_41 : decode cX7_flat 41 = .ok (.iload 4, 2) := by decide +kernel
theorem dX7_flat_43 : decode cX7_flat 43 = .ok (.iaload, 1) := by decide +kernel
theorem dX7_flat_44 : decode cX7_flat 44 = .ok (.ishl, 1) := by decide +kernel
theorem dX7_flat_45 : decode cX7_flat 45 = .ok (.goto 4, 3) := by decide +kernel
theorem dX7_flat_48 : decode cX7_flat 48 = .ok (.iconst 0, 1) := by decide +kernel
theorem dX7_flat_49 : decode cX7_flat 49 = .ok (.ior, 1) := by decide +kernel
theorem dX7_flat_50 : decode cX7_flat 50 = .ok (.istore_n 3, 1) := by decide +kernel
theorem dX7_flat_51 : decode cX7_flat 51 = .ok (.iinc 4 1, 3) := by decide +kernel
theorem dX7_flat_54 : decode cX7_flat 54 = .ok (.goto (-49), 3) := by decide +kernel
theorem dX7_flat_57 : decode cX7_flat 57 = .ok (.iload_n 3, 1) := by decide +kernel
theorem dX7_flat_58 : decode cX7_flat 58 = .ok (.ireturn, 1) := by decide +kernel
theorem dX7_upright_0 : decode cX7_upright 0 = .ok (.aload_n 0, 1) := by decide +kernel
theorem dX7_upright_1 : decode cX7_upright 1 = .ok (.iload_n 2, 1) := by decide +kernel
theorem dX7_upright_2 : decode cX7_upright 2 = .ok (.invokevirtual 124, 3) := by decide +kernel
theorem dX7_upright_5 : decode cX7_upright 5 = .ok (.iconst (-1), 1) := by decide +kernel
theorem dX7_upright_6 : decode cX7_upright 6 = .ok (.if_icmp .eq 26, 3) := by decide +kernel
theorem dX7_upright_9 : decode cX7_upright 9 = .ok (.aload_n 0, 1) := by decide +kernel
theorem dX7_upright_10 : decode cX7_upright 10 = .ok (.iload_n 2, 1) := by decide +kernel
theorem dX7_upright_11 : decode cX7_upright 11 = .ok (.invokevirtual 124, 3) := by decide +kernel
theorem dX7_upright_14 : decode cX7_upright 14 = .ok (.aload_n 0, 1) := by decide +kernel
theorem dX7_upright_15 : decode cX7_upright 15 = .ok (.iload_n 2, 1) := by decide +kernel
theorem dX7_upright_16 : decode cX7_upright 16 = .ok (.invokevirtual 127, 3) := by decide +kernel
theorem dX7_upright_19 : decode cX7_upright 19 = .ok (.if_icmp .ne 13, 3) := by decide +kernel
theorem dX7_upright_22 : decode cX7_upright 22 = .ok (.iconst 1, 1) := by decide +kernel
theorem dX7_upright_23 : decode cX7_upright 23 = .ok (.aload_n 0, 1) := by decide +kernel
theorem dX7_upright_24 : decode cX7_upright 24 = .ok (.iload_n 2, 1) := by decide +kernel
theorem dX7_upright_25 : decode cX7_upright 25 = .ok (.invokevirtual 124, 3) := by decide +kernel
theorem dX7_upright_28 : decode cX7_upright 28 = .ok (.ishl, 1) := by decide +kernel
theorem dX7_upright_29 : decode cX7_upright 29 = .ok (.goto 4, 3) := by decide +kernel
theorem dX7_upright_32 : decode cX7_upright 32 = .ok (.iconst 0, 1) := by decide +kernel
theorem dX7_upright_33 : decode cX7_upright 33 = .ok (.istore_n 3, 1) := by decide +kernel
theorem dX7_upright_34 : decode cX7_upright 34 = .ok (.iconst 0, 1) := by decide +kernel
theorem dX7_upright_35 : decode cX7_upright 35 = .ok (.istore 4, 2) := by decide +kernel
theorem dX7_upright_37 : decode cX7_upright 37 = .ok (.iload 4, 2) := by decide +kernel
theorem dX7_upright_39 : decode cX7_upright 39 = .ok (.aload_n 0, 1) := by decide +kernel
theorem dX7_upright_40 : decode cX7_upright 40 = .ok (.getfield 130, 3) := by decide +kernel
theorem dX7_upright_43 : decode cX7_upright 43 = .ok (.if_icmp .ge 134, 3) := by decide +kernel
theorem dX7_upright_46 : decode cX7_upright 46 = .ok (.aload_n 0, 1) := by decide +kernel
theorem dX7_upright_47 : decode cX7_upright 47 = .ok (.getfield 22, 3) := by decide +kernel
theorem dX7_upright_50 : decode cX7_upright 50 = .ok (.iload 4, 2) := by decide +kernel
theorem dX7_upright_52 : decode cX7_upright 52 = .ok (.iaload, 1) := by decide +kernel
theorem dX7_upright_53 : decode cX7_upright 53 = .ok (.iconst (-1), 1) := by decide +kernel
theorem dX7_upright_54 : decode cX7_upright 54 = .ok (.if_icmp .eq 17, 3) := by decide +kernel
theorem dX7_upright_57 : decode cX7_upright 57 = .ok (.aload_n 0, 1) := by decide +kernel
theorem dX7_upright_58 : decode cX7_upright 58 = .ok (.iload 4, 2) := by decide +kernel
theorem dX7_upright_60 : decode cX7_upright 60 = .ok (.iload_n 2, 1) := by decide +kernel
theorem dX7_upright_61 : decode cX7_upright 61 = .ok (.invokevirtual 143, 3) := by decide +kernel
theorem dX7_upright_64 : decode cX7_upright 64 = .ok (.ifCond .eq 7, 3) := by decide +kernel
theorem dX7_upright_67 : decode cX7_upright 67 = .ok (.iconst 1, 1) := by decide +kernel
theorem dX7_upright_68 : decode cX7_upright 68 = .ok (.goto 4, 3) := by decide +kernel
theorem dX7_upright_71 : decode cX7_upright 71 = .ok (.iconst 0, 1) := by decide +kernel
theorem dX7_upright_72 : decode cX7_upright 72 = .ok (.istore 5, 2) := by decide +kernel
theorem dX7_upright_74 : decode cX7_upright 74 = .ok (.aload_n 0, 1) := by decide +kernel
theorem dX7_upright_75 : decode cX7_upright 75 = .ok (.getfield 13, 3) := by decide +kernel
theorem dX7_upright_78 : decode cX7_upright 78 = .ok (.iload 4, 2) := by decide +kernel
theorem dX7_upright_80 : decode cX7_upright 80 = .ok (.iaload, 1) := by decide +kernel
theorem dX7_upright_81 : decode cX7_upright 81 = .ok (.aload_n 0, 1) := by decide +kernel
theorem dX7_upright_82 : decode cX7_upright 82 = .ok (.iload_n 2, 1) := by decide +kernel
theorem dX7_upright_83 : decode cX7_upright 83 = .ok (.invokevirtual 124, 3) := by decide +kernel
theorem dX7_upright_86 : decode cX7_upright 86 = .ok (.if_icmp .ne 18, 3) := by decide +kernel
theorem dX7_upright_89 : decode cX7_upright 89 = .ok (.aload_n 0, 1) := by decide +kernel
theorem dX7_upright_90 : decode cX7_upright 90 = .ok (.getfield 22, 3) := by decide +kernel
theorem dX7_upright_93 : decode cX7_upright 93 = .ok (.iload 4, 2) := by decide +kernel
theorem dX7_upright_95 : decode cX7_upright 95 = .ok (.iaload, 1) := by decide +kernel
theorem dX7_upright_96 : decode cX7_upright 96 = .ok (.iload_n 1, 1) := by decide +kernel
theorem dX7_upright_97 : decode cX7_upright 97 = .ok (.if_icmp .lt 7, 3) := by decide +kernel
theorem dX7_upright_100 : decode cX7_upright 100 = .ok (.iconst 1, 1) := by decide +kernel
theorem dX7_upright_101 : decode cX7_upright 101 = .ok (.goto 4, 3) := by decide +kernel
theorem dX7_upright_104 : decode cX7_upright 104 = .ok (.iconst 0, 1) := by decide +kernel
theorem dX7_upright_105 : decode cX7_upright 105 = .ok (.istore 6, 2) := by decide +kernel
theorem dX7_upright_107 : decode cX7_upright 107 = .ok (.aload_n 0, 1) := by decide +kernel
theorem dX7_upright_108 : decode cX7_upright 108 = .ok (.getfield 13, 3) := by decide +kernel
theorem dX7_upright_111 : decode cX7_upright 111 = .ok (.iload 4, 2) := by decide +kernel
theorem dX7_upright_113 : decode cX7_upright 113 = .ok (.iaload, 1) := by decide +kernel
theorem dX7_upright_114 : decode cX7_upright 114 = .ok (.aload_n 0, 1) := by decide +kernel
theorem dX7_upright_115 : decode cX7_upright 115 = .ok (.iload_n 2, 1) := by decide +kernel
theorem dX7_upright_116 : decode cX7_upright 116 = .ok (.invokevirtual 127, 3) := by decide +kernel
theorem dX7_upright_119 : decode cX7_upright 119 = .ok (.if_icmp .ne 18, 3) := by decide +kernel
theorem dX7_upright_122 : decode cX7_upright 122 = .ok (.aload_n 0, 1) := by decide +kernel
theorem dX7_upright_123 : decode cX7_upright 123 = .ok (.getfield 22, 3) := by decide +kernel
theorem dX7_upright_126 : decode cX7_upright 126 = .ok (.iload 4, 2) := by decide +kernel
theorem dX7_upright_128 : decode cX7_upright 128 = .ok (.iaload, 1) := by decide +kernel
theorem dX7_upright_129 : decode cX7_upright 129 = .ok (.iload_n 1, 1) := by decide +kernel
theorem dX7_upright_130 : decode cX7_upright 130 = .ok (.if_icmp .gt 7, 3) := by decide +kernel
theorem dX7_upright_133 : decode cX7_upright 133 = .ok (.iconst 1, 1) := by decide +kernel
theorem dX7_upright_134 : decode cX7_upright 134 = .ok (.goto 4, 3) := by decide +kernel
theorem dX7_upright_137 : decode cX7_upright 137 = .ok (.iconst 0, 1) := by decide +kernel
theorem dX7_upright_138 : decode cX7_upright 138 = .ok (.istore 7, 2) := by decide +kernel
theorem dX7_upright_140 : decode cX7_upright 140 = .ok (.iload_n 3, 1) := by decide +kernel
theorem dX7_upright_141 : decode cX7_upright 141 = .ok (.iload 5, 2) := by decide +kernel
theorem dX7_upright_143 : decode cX7_upright 143 = .ok (.ifCond .eq 25, 3) := by decide +kernel
theorem dX7_upright_146 : decode cX7_upright 146 = .ok (.iload 6, 2) := by decide +kernel
theorem dX7_upright_148 : decode cX7_upright 148 = .ok (.ifCond .ne 8, 3) := by decide +kernel
theorem dX7_upright_151 : decode cX7_upright 151 = .ok (.iload 7, 2) := by decide +kernel
theorem dX7_upright_153 : decode cX7_upright 153 = .ok (.ifCond .eq 15, 3) := by decide +kernel
theorem dX7_upright_156 : decode cX7_upright 156 = .ok (.iconst 1, 1) := by decide +kernel
theorem dX7_upright_157 : decode cX7_upright 157 = .ok (.aload_n 0, 1) := by decide +kernel
theorem dX7_upright_158 : decode cX7_upright 158 = .ok (.getfield 13, 3) := by decide +kernel
theorem dX7_upright_161 : decode cX7_upright 161 = .ok (.iload 4, 2) := by decide +kernel
theorem dX7_upright_163 : decode cX7_upright 163 = .ok (.iaload, 1) := by decide +kernel
theorem dX7_upright_164 : decode cX7_upright 164 = .ok (.ishl, 1) := by decide +kernel
theorem dX7_upright_165 : decode cX7_upright 165 = .ok (.goto 4, 3) := by decide +kernel
theorem dX7_upright_168 : decode cX7_upright 168 = .ok (.iconst 0, 1) := by decide +kernel
theorem dX7_upright_169 : decode cX7_upright 169 = .ok (.ior, 1) := by decide +kernel
theorem dX7_upright_170 : decode cX7_upright 170 = .ok (.istore_n 3, 1) := by decide +kernel
theorem dX7_upright_171 : decode cX7_upright 171 = .ok (.iinc 4 1, 3) := by decide +kernel
theorem dX7_upright_174 : decode cX7_upright 174 = .ok (.goto (-137), 3) := by decide +kernel
theorem dX7_upright_177 : decode cX7_upright 177 = .ok (.iload_n 3, 1) := by decide +kernel
theorem dX7_upright_178 : decode cX7_upright 178 = .ok (.ireturn, 1) := by decide +kernel
theorem dX7_clashes_0 : decode cX7_clashes 0 = .ok (.iconst 0, 1) := by decide +kernel
theorem dX7_clashes_1 : decode cX7_clashes 1 = .ok (.istore_n 1, 1) := by decide +kernel
theorem dX7_clashes_2 : decode cX7_clashes 2 = .ok (.iconst 0, 1) := by decide +kernel
theorem dX7_clashes_3 : decode cX7_clashes 3 = .ok (.istore_n 2, 1) := by decide +kernel
theorem dX7_clashes_4 : decode cX7_clashes 4 = .ok (.iload_n 2, 1) := by decide +kernel
theorem dX7_clashes_5 : decode cX7_clashes 5 = .ok (.aload_n 0, 1) := by decide +kernel
theorem dX7_clashes_6 : decode cX7_clashes 6 = .ok (.invokevirtual 185, 3) := by decide +kernel
theorem dX7_clashes_9 : decode cX7_clashes 9 = .ok (.if_icmp .ge 67, 3) := by decide +kernel
theorem dX7_clashes_12 : decode cX7_clashes 12 = .ok (.iconst 0, 1) := by decide +kernel
theorem dX7_clashes_13 : decode cX7_clashes 13 = .ok (.istore_n 3, 1) := by decide +kernel
theorem dX7_clashes_14 : decode cX7_clashes 14 = .ok (.iload_n 3, 1) := by decide +kernel
theorem dX7_clashes_15 : decode cX7_clashes 15 = .ok (.aload_n 0, 1) := by decide +kernel
theorem dX7_clashes_16 : decode cX7_clashes 16 = .ok (.getfield 87, 3) := by decide +kernel
theorem dX7_clashes_19 : decode cX7_clashes 19 = .ok (.if_icmp .ge 51, 3) := by decide +kernel
theorem dX7_clashes_22 : decode cX7_clashes 22 = .ok (.iload_n 1, 1) := by decide +kernel
theorem dX7_clashes_23 : decode cX7_clashes 23 = .ok (.aload_n 0, 1) := by decide +kernel
theorem dX7_clashes_24 : decode cX7_clashes 24 = .ok (.iload_n 2, 1) := by decide +kernel
theorem dX7_clashes_25 : decode cX7_clashes 25 = .ok (.iload_n 3, 1) := by decide +kernel
theorem dX7_clashes_26 : decode cX7_clashes 26 = .ok (.invokevirtual 188, 3) := by decide +kernel
theorem dX7_clashes_29 : decode cX7_clashes 29 = .ok (.invokestatic 191, 3) := by decide +kernel
theorem dX7_clashes_32 : decode cX7_clashes 32 = .ok (.iconst 1, 1) := by decide +kernel
theorem dX7_clashes_33 : decode cX7_clashes 33 = .ok (.if_icmp .le 7, 3) := by decide +kernel
theorem dX7_clashes_36 : decode cX7_clashes 36 = .ok (.iconst 1, 1) := by decide +kernel
theorem dX7_clashes_37 : decode cX7_clashes 37 = .ok (.goto 4, 3) := by decide +kernel
theorem dX7_clashes_40 : decode cX7_clashes 40 = .ok (.iconst 0, 1) := by decide +kernel
theorem dX7_clashes_41 : decode cX7_clashes 41 = .ok (.iadd, 1) := by decide +kernel
theorem dX7_clashes_42 : decode cX7_clashes 42 = .ok (.istore_n 1, 1) := by decide +kernel
theorem dX7_clashes_43 : decode cX7_clashes 43 = .ok (.iload_n 1, 1) := by decide +kernel
theorem dX7_clashes_44 : decode cX7_clashes 44 = .ok (.aload_n 0, 1) := by decide +kernel
theorem dX7_clashes_45 : decode cX7_clashes 45 = .ok (.iload_n 2, 1) := by decide +kernel
theorem dX7_clashes_46 : decode cX7_clashes 46 = .ok (.iload_n 3, 1) := by decide +kernel
theorem dX7_clashes_47 : decode cX7_clashes 47 = .ok (.invokevirtual 194, 3) := by decide +kernel
theorem dX7_clashes_50 : decode cX7_clashes 50 = .ok (.invokestatic 191, 3) := by decide +kernel
theorem dX7_clashes_53 : decode cX7_clashes 53 = .ok (.iconst 1, 1) := by decide +kernel
theorem dX7_clashes_54 : decode cX7_clashes 54 = .ok (.if_icmp .le 7, 3) := by decide +kernel
theorem dX7_clashes_57 : decode cX7_clashes 57 = .ok (.iconst 1, 1) := by decide +kernel
theorem dX7_clashes_58 : decode cX7_clashes 58 = .ok (.goto 4, 3) := by decide +kernel
theorem dX7_clashes_61 : decode cX7_clashes 61 = .ok (.iconst 0, 1) := by decide +kernel
theorem dX7_clashes_62 : decode cX7_clashes 62 = .ok (.iadd, 1) := by decide +kernel
theorem dX7_clashes_63 : decode cX7_clashes 63 = .ok (.istore_n 1, 1) := by decide +kernel
theorem dX7_clashes_64 : decode cX7_clashes 64 = .ok (.iinc 3 1, 3) := by decide +kernel
theorem dX7_clashes_67 : decode cX7_clashes 67 = .ok (.goto (-53), 3) := by decide +kernel
theorem dX7_clashes_70 : decode cX7_clashes 70 = .ok (.iinc 2 1, 3) := by decide +kernel
theorem dX7_clashes_73 : decode cX7_clashes 73 = .ok (.goto (-69), 3) := by decide +kernel
theorem dX7_clashes_76 : decode cX7_clashes 76 = .ok (.iload_n 1, 1) := by decide +kernel
theorem dX7_clashes_77 : decode cX7_clashes 77 = .ok (.ireturn, 1) := by decide +kernel
theorem dX7_inkLength_0 : decode cX7_inkLength 0 = .ok (.aload_n 0, 1) := by decide +kernel
theorem dX7_inkLength_1 : decode cX7_inkLength 1 = .ok (.invokevirtual 197, 3) := by decide +kernel
theorem dX7_inkLength_4 : decode cX7_inkLength 4 = .ok (.ifCond .eq 26, 3) := by decide +kernel
theorem dX7_inkLength_7 : decode cX7_inkLength 7 = .ok (.aload_n 0, 1) := by decide +kernel
theorem dX7_inkLength_8 : decode cX7_inkLength 8 = .ok (.invokevirtual 185, 3) := by decide +kernel
theorem dX7_inkLength_11 : decode cX7_inkLength 11 = .ok (.ifCond .le 19, 3) := by decide +kernel
theorem dX7_inkLength_14 : decode cX7_inkLength 14 = .ok (.aload_n 0, 1) := by decide +kernel
theorem dX7_inkLength_15 : decode cX7_inkLength 15 = .ok (.invokevirtual 185, 3) := by decide +kernel
theorem dX7_inkLength_18 : decode cX7_inkLength 18 = .ok (.aload_n 0, 1) := by decide +kernel
theorem dX7_inkLength_19 : decode cX7_inkLength 19 = .ok (.getfield 87, 3) := by decide +kernel
theorem dX7_inkLength_22 : decode cX7_inkLength 22 = .ok (.iconst 1, 1) := by decide +kernel
theorem dX7_inkLength_23 : decode cX7_inkLength 23 = .ok (.iadd, 1) := by decide +kernel
theorem dX7_inkLength_24 : decode cX7_inkLength 24 = .ok (.imul, 1) := by decide +kernel
theorem dX7_inkLength_25 : decode cX7_inkLength 25 = .ok (.iconst 1, 1) := by decide +kernel
theorem dX7_inkLength_26 : decode cX7_inkLength 26 = .ok (.isub, 1) := by decide +kernel
theorem dX7_inkLength_27 : decode cX7_inkLength 27 = .ok (.goto 4, 3) := by decide +kernel
theorem dX7_inkLength_30 : decode cX7_inkLength 30 = .ok (.iconst 0, 1) := by decide +kernel
theorem dX7_inkLength_31 : decode cX7_inkLength 31 = .ok (.ireturn, 1) := by decide +kernel
theorem dX7_inkNow_0 : decode cX7_inkNow 0 = .ok (.iload_n 1, 1) := by decide +kernel
theorem dX7_inkNow_1 : decode cX7_inkNow 1 = .ok (.aload_n 0, 1) := by decide +kernel
theorem dX7_inkNow_2 : decode cX7_inkNow 2 = .ok (.getfield 87, 3) := by decide +kernel
theorem dX7_inkNow_5 : decode cX7_inkNow 5 = .ok (.iconst 1, 1) := by decide +kernel
theorem dX7_inkNow_6 : decode cX7_inkNow 6 = .ok (.iadd, 1) := by decide +kernel
theorem dX7_inkNow_7 : decode cX7_inkNow 7 = .ok (.irem, 1) := by decide +kernel
theorem dX7_inkNow_8 : decode cX7_inkNow 8 = .ok (.istore_n 2, 1) := by decide +kernel
theorem dX7_inkNow_9 : decode cX7_inkNow 9 = .ok (.iload_n 2, 1) := by decide +kernel
theorem dX7_inkNow_10 : decode cX7_inkNow 10 = .ok (.aload_n 0, 1) := by decide +kernel
theorem dX7_inkNow_11 : decode cX7_inkNow 11 = .ok (.getfield 87, 3) := by decide +kernel
theorem dX7_inkNow_14 : decode cX7_inkNow 14 = .ok (.if_icmp .ne 6, 3) := by decide +kernel
theorem dX7_inkNow_17 : decode cX7_inkNow 17 = .ok (.bipush 47, 2) := by decide +kernel
theorem dX7_inkNow_19 : decode cX7_inkNow 19 = .ok (.ireturn, 1) := by decide +kernel
theorem dX7_inkNow_20 : decode cX7_inkNow 20 = .ok (.aload_n 0, 1) := by decide +kernel
theorem dX7_inkNow_21 : decode cX7_inkNow 21 = .ok (.iload_n 1, 1) := by decide +kernel
theorem dX7_inkNow_22 : decode cX7_inkNow 22 = .ok (.aload_n 0, 1) := by decide +kernel
theorem dX7_inkNow_23 : decode cX7_inkNow 23 = .ok (.getfield 87, 3) := by decide +kernel
theorem dX7_inkNow_26 : decode cX7_inkNow 26 = .ok (.iconst 1, 1) := by decide +kernel
theorem dX7_inkNow_27 : decode cX7_inkNow 27 = .ok (.iadd, 1) := by decide +kernel
theorem dX7_inkNow_28 : decode cX7_inkNow 28 = .ok (.idiv, 1) := by decide +kernel
theorem dX7_inkNow_29 : decode cX7_inkNow 29 = .ok (.iload_n 2, 1) := by decide +kernel
theorem dX7_inkNow_30 : decode cX7_inkNow 30 = .ok (.invokevirtual 188, 3) := by decide +kernel
theorem dX7_inkNow_33 : decode cX7_inkNow 33 = .ok (.istore_n 3, 1) := by decide +kernel
theorem dX7_inkNow_34 : decode cX7_inkNow 34 = .ok (.iload_n 3, 1) := by decide +kernel
theorem dX7_inkNow_35 : decode cX7_inkNow 35 = .ok (.ifCond .ne 8, 3) := by decide +kernel
theorem dX7_inkNow_38 : decode cX7_inkNow 38 = .ok (.bipush 46, 2) := by decide +kernel
theorem dX7_inkNow_40 : decode cX7_inkNow 40 = .ok (.goto 23, 3) := by decide +kernel
theorem dX7_inkNow_43 : decode cX7_inkNow 43 = .ok (.iload_n 3, 1) := by decide +kernel
theorem dX7_inkNow_44 : decode cX7_inkNow 44 = .ok (.invokestatic 191, 3) := by decide +kernel
theorem dX7_inkNow_47 : decode cX7_inkNow 47 = .ok (.iconst 1, 1) := by decide +kernel
theorem dX7_inkNow_48 : decode cX7_inkNow 48 = .ok (.if_icmp .le 8, 3) := by decide +kernel
theorem dX7_inkNow_51 : decode cX7_inkNow 51 = .ok (.bipush 35, 2) := by decide +kernel
theorem dX7_inkNow_53 : decode cX7_inkNow 53 = .ok (.goto 10, 3) := by decide +kernel
theorem dX7_inkNow_56 : decode cX7_inkNow 56 = .ok (.bipush 97, 2) := by decide +kernel
theorem dX7_inkNow_58 : decode cX7_inkNow 58 = .ok (.iload_n 3, 1) := by decide +kernel
theorem dX7_inkNow_59 : decode cX7_inkNow 59 = .ok (.invokestatic 159, 3) := by decide +kernel
theorem dX7_inkNow_62 : decode cX7_inkNow 62 = .ok (.iadd, 1) := by decide +kernel
theorem dX7_inkNow_63 : decode cX7_inkNow 63 = .ok (.ireturn, 1) := by decide +kernel
theorem dX7_ink_0 : decode cX7_ink 0 = .ok (.iload_n 1, 1) := by decide +kernel
theorem dX7_ink_1 : decode cX7_ink 1 = .ok (.iconst 0, 1) := by decide +kernel
theorem dX7_ink_2 : decode cX7_ink 2 = .ok (.aload_n 0, 1) := by decide +kernel
theorem dX7_ink_3 : decode cX7_ink 3 = .ok (.invokevirtual 200, 3) := by decide +kernel
theorem dX7_ink_6 : decode cX7_ink 6 = .ok (.iconst 1, 1) := by decide +kernel
theorem dX7_ink_7 : decode cX7_ink 7 = .ok (.isub, 1) := by decide +kernel
theorem dX7_ink_8 : decode cX7_ink 8 = .ok (.invokestatic 47, 3) := by decide +kernel
theorem dX7_ink_11 : decode cX7_ink 11 = .ok (.ifCond .eq 11, 3) := by decide +kernel
theorem dX7_ink_14 : decode cX7_ink 14 = .ok (.aload_n 0, 1) := by decide +kernel
theorem dX7_ink_15 : decode cX7_ink 15 = .ok (.iload_n 1, 1) := by decide +kernel
theorem dX7_ink_16 : decode cX7_ink 16 = .ok (.invokevirtual 203, 3) := by decide +kernel
theorem dX7_ink_19 : decode cX7_ink 19 = .ok (.goto 5, 3) := by decide +kernel
theorem dX7_ink_22 : decode cX7_ink 22 = .ok (.bipush (-101), 2) := by decide +kernel
theorem dX7_ink_24 : decode cX7_ink 24 = .ok (.ireturn, 1) := by decide +kernel
theorem dX7_netsIn_0 : decode cX7_netsIn 0 = .ok (.iconst 0, 1) := by decide +kernel
theorem dX7_netsIn_1 : decode cX7_netsIn 1 = .ok (.istore_n 2, 1) := by decide +kernel
theorem dX7_netsIn_2 : decode cX7_netsIn 2 = .ok (.iconst 0, 1) := by decide +kernel
theorem dX7_netsIn_3 : decode cX7_netsIn 3 = .ok (.istore_n 3, 1) := by decide +kernel
theorem dX7_netsIn_4 : decode cX7_netsIn 4 = .ok (.iload_n 3, 1) := by decide +kernel
theorem dX7_netsIn_5 : decode cX7_netsIn 5 = .ok (.aload_n 0, 1) := by decide +kernel
theorem dX7_netsIn_6 : decode cX7_netsIn 6 = .ok (.getfield 130, 3) := by decide +kernel
theorem dX7_netsIn_9 : decode cX7_netsIn 9 = .ok (.if_icmp .ge 33, 3) := by decide +kernel
theorem dX7_netsIn_12 : decode cX7_netsIn 12 = .ok (.iload_n 2, 1) := by decide +kernel
theorem dX7_netsIn_13 : decode cX7_netsIn 13 = .ok (.aload_n 0, 1) := by decide +kernel
theorem dX7_netsIn_14 : decode cX7_netsIn 14 = .ok (.iload_n 3, 1) := by decide +kernel
theorem dX7_netsIn_15 : decode cX7_netsIn 15 = .ok (.iload_n 1, 1) := by decide +kernel
theorem dX7_netsIn_16 : decode cX7_netsIn 16 = .ok (.invokevirtual 140, 3) := by decide +kernel
theorem dX7_netsIn_19 : decode cX7_netsIn 19 = .ok (.ifCond .eq 14, 3) := by decide +kernel
theorem dX7_netsIn_22 : decode cX7_netsIn 22 = .ok (.iconst 1, 1) := by decide +kernel
theorem dX7_netsIn_23 : decode cX7_netsIn 23 = .ok (.aload_n 0, 1) := by decide +kernel
theorem dX7_netsIn_24 : decode cX7_netsIn 24 = .ok (.getfield 13, 3) := by decide +kernel
theorem dX7_netsIn_27 : decode cX7_netsIn 27 = .ok (.iload_n 3, 1) := by decide +kernel
theorem dX7_netsIn_28 : decode cX7_netsIn 28 = .ok (.iaload, 1) := by decide +kernel
theorem dX7_netsIn_29 : decode cX7_netsIn 29 = .ok (.ishl, 1) := by decide +kernel
theorem dX7_netsIn_30 : decode cX7_netsIn 30 = .ok (.goto 4, 3) := by decide +kernel
theorem dX7_netsIn_33 : decode cX7_netsIn 33 = .ok (.iconst 0, 1) := by decide +kernel
theorem dX7_netsIn_34 : decode cX7_netsIn 34 = .ok (.ior, 1) := by decide +kernel
theorem dX7_netsIn_35 : decode cX7_netsIn 35 = .ok (.istore_n 2, 1) := by decide +kernel
theorem dX7_netsIn_36 : decode cX7_netsIn 36 = .ok (.iinc 3 1, 3) := by decide +kernel
theorem dX7_netsIn_39 : decode cX7_netsIn 39 = .ok (.goto (-35), 3) := by decide +kernel
theorem dX7_netsIn_42 : decode cX7_netsIn 42 = .ok (.iload_n 2, 1) := by decide +kernel
theorem dX7_netsIn_43 : decode cX7_netsIn 43 = .ok (.ireturn, 1) := by decide +kernel
theorem dX7_density_0 : decode cX7_density 0 = .ok (.iconst 0, 1) := by decide +kernel
theorem dX7_density_1 : decode cX7_density 1 = .ok (.istore_n 1, 1) := by decide +kernel
theorem dX7_density_2 : decode cX7_density 2 = .ok (.iconst 0, 1) := by decide +kernel
theorem dX7_density_3 : decode cX7_density 3 = .ok (.istore_n 2, 1) := by decide +kernel
theorem dX7_density_4 : decode cX7_density 4 = .ok (.iload_n 2, 1) := by decide +kernel
theorem dX7_density_5 : decode cX7_density 5 = .ok (.aload_n 0, 1) := by decide +kernel
theorem dX7_density_6 : decode cX7_density 6 = .ok (.getfield 87, 3) := by decide +kernel
theorem dX7_density_9 : decode cX7_density 9 = .ok (.if_icmp .ge 29, 3) := by decide +kernel
theorem dX7_density_12 : decode cX7_density 12 = .ok (.aload_n 0, 1) := by decide +kernel
theorem dX7_density_13 : decode cX7_density 13 = .ok (.iload_n 2, 1) := by decide +kernel
theorem dX7_density_14 : decode cX7_density 14 = .ok (.invokevirtual 206, 3) := by decide +kernel
theorem dX7_density_17 : decode cX7_density 17 = .ok (.invokestatic 191, 3) := by decide +kernel
theorem dX7_density_20 : decode cX7_density 20 = .ok (.istore_n 3, 1) := by decide +kernel
theorem dX7_density_21 : decode cX7_density 21 = .ok (.iload_n 3, 1) := by decide +kernel
theorem dX7_density_22 : decode cX7_density 22 = .ok (.iload_n 1, 1) := by decide +kernel
theorem dX7_density_23 : decode cX7_density 23 = .ok (.if_icmp .le 7, 3) := by decide +kernel
theorem dX7_density_26 : decode cX7_density 26 = .ok (.iload_n 3, 1) := by decide +kernel
theorem dX7_density_27 : decode cX7_density 27 = .ok (.goto 4, 3) := by decide +kernel
theorem dX7_density_30 : decode cX7_density 30 = .ok (.iload_n 1, 1) := by decide +kernel
theorem dX7_density_31 : decode cX7_density 31 = .ok (.istore_n 1, 1) := by decide +kernel
theorem dX7_density_32 : decode cX7_density 32 = .ok (.iinc 2 1, 3) := by decide +kernel
theorem dX7_density_35 : decode cX7_density 35 = .ok (.goto (-31), 3) := by decide +kernel
theorem dX7_density_38 : decode cX7_density 38 = .ok (.iload_n 1, 1) := by decide +kernel
theorem dX7_density_39 : decode cX7_density 39 = .ok (.ireturn, 1) := by decide +kernel
theorem dX7_isZone_0 : decode cX7_isZone 0 = .ok (.aload_n 0, 1) := by decide +kernel
theorem dX7_isZone_1 : decode cX7_isZone 1 = .ok (.iload_n 1, 1) := by decide +kernel
theorem dX7_isZone_2 : decode cX7_isZone 2 = .ok (.invokevirtual 206, 3) := by decide +kernel
theorem dX7_isZone_5 : decode cX7_isZone 5 = .ok (.istore_n 2, 1) := by decide +kernel
theorem dX7_isZone_6 : decode cX7_isZone 6 = .ok (.iload_n 2, 1) := by decide +kernel
theorem dX7_isZone_7 : decode cX7_isZone 7 = .ok (.ifCond .eq 7, 3) := by decide +kernel
theorem dX7_isZone_10 : decode cX7_isZone 10 = .ok (.iconst 1, 1) := by decide +kernel
theorem dX7_isZone_11 : decode cX7_isZone 11 = .ok (.goto 4, 3) := by decide +kernel
theorem dX7_isZone_14 : decode cX7_isZone 14 = .ok (.iconst 0, 1) := by decide +kernel
theorem dX7_isZone_15 : decode cX7_isZone 15 = .ok (.istore_n 3, 1) := by decide +kernel
theorem dX7_isZone_16 : decode cX7_isZone 16 = .ok (.iconst 0, 1) := by decide +kernel
theorem dX7_isZone_17 : decode cX7_isZone 17 = .ok (.istore 4, 2) := by decide +kernel
theorem dX7_isZone_19 : decode cX7_isZone 19 = .ok (.iload 4, 2) := by decide +kernel
theorem dX7_isZone_21 : decode cX7_isZone 21 = .ok (.aload_n 0, 1) := by decide +kernel
theorem dX7_isZone_22 : decode cX7_isZone 22 = .ok (.getfield 87, 3) := by decide +kernel
theorem dX7_isZone_25 : decode cX7_isZone 25 = .ok (.if_icmp .ge 65, 3) := by decide +kernel
theorem dX7_isZone_28 : decode cX7_isZone 28 = .ok (.aload_n 0, 1) := by decide +kernel
theorem dX7_isZone_29 : decode cX7_isZone 29 = .ok (.iload 4, 2) := by decide +kernel
theorem dX7_isZone_31 : decode cX7_isZone 31 = .ok (.invokevirtual 206, 3) := by decide +kernel
theorem dX7_isZone_34 : decode cX7_isZone 34 = .ok (.istore 5, 2) := by decide +kernel
theorem dX7_isZone_36 : decode cX7_isZone 36 = .ok (.iload_n 2, 1) := by decide +kernel
theorem dX7_isZone_37 : decode cX7_isZone 37 = .ok (.iload 5, 2) := by decide +kernel
theorem dX7_isZone_39 : decode cX7_isZone 39 = .ok (.iand, 1) := by decide +kernel
theorem dX7_isZone_40 : decode cX7_isZone 40 = .ok (.iload_n 2, 1) := by decide +kernel
theorem dX7_isZone_41 : decode cX7_isZone 41 = .ok (.if_icmp .ne 7, 3) := by decide +kernel
theorem dX7_isZone_44 : decode cX7_isZone 44 = .ok (.iconst 1, 1) := by decide +kernel
theorem dX7_isZone_45 : decode cX7_isZone 45 = .ok (.goto 4, 3) := by decide +kernel
theorem dX7_isZone_48 : decode cX7_isZone 48 = .ok (.iconst 0, 1) := by decide +kernel
theorem dX7_isZone_49 : decode cX7_isZone 49 = .ok (.istore 6, 2) := by decide +kernel
theorem dX7_isZone_51 : decode cX7_isZone 51 = .ok (.iload_n 3, 1) := by decide +kernel
theorem dX7_isZone_52 : decode cX7_isZone 52 = .ok (.ifCond .eq 30, 3) := by decide +kernel
theorem dX7_isZone_55 : decode cX7_isZone 55 = .ok (.iload 6, 2) := by decide +kernel
theorem dX7_isZone_57 : decode cX7_isZone 57 = .ok (.ifCond .eq 9, 3) := by decide +kernel
theorem dX7_isZone_60 : decode cX7_isZone 60 = .ok (.iload 5, 2) := by decide +kernel
theorem dX7_isZone_62 : decode cX7_isZone 62 = .ok (.iload_n 2, 1) := by decide +kernel
theorem dX7_isZone_63 : decode cX7_isZone 63 = .ok (.if_icmp .ne 19, 3) := by decide +kernel
theorem dX7_isZone_66 : decode cX7_isZone 66 = .ok (.iload 5, 2) := by decide +kernel
theorem dX7_isZone_68 : decode cX7_isZone 68 = .ok (.iload_n 2, 1) := by decide +kernel
theorem dX7_isZone_69 : decode cX7_isZone 69 = .ok (.if_icmp .ne 9, 3) := by decide +kernel
theorem dX7_isZone_72 : decode cX7_isZone 72 = .ok (.iload 4, 2) := by decide +kernel
theorem dX7_isZone_74 : decode cX7_isZone 74 = .ok (.iload_n 1, 1) := by decide +kernel
theorem dX7_isZone_75 : decode cX7_isZone 75 = .ok (.if_icmp .lt 7, 3) := by decide +kernel
theorem dX7_isZone_78 : decode cX7_isZone 78 = .ok (.iconst 1, 1) := by decide +kernel
theorem dX7_isZone_79 : decode cX7_isZone 79 = .ok (.goto 4, 3) := by decide +kernel
theorem dX7_isZone_82 : decode cX7_isZone 82 = .ok (.iconst 0, 1) := by decide +kernel
theorem dX7_isZone_83 : decode cX7_isZone 83 = .ok (.istore_n 3, 1) := by decide +kernel
theorem dX7_isZone_84 : decode cX7_isZone 84 = .ok (.iinc 4 1, 3) := by decide +kernel
theorem dX7_isZone_87 : decode cX7_isZone 87 = .ok (.goto (-68), 3) := by decide +kernel
theorem dX7_isZone_90 : decode cX7_isZone 90 = .ok (.iload_n 3, 1) := by decide +kernel
theorem dX7_isZone_91 : decode cX7_isZone 91 = .ok (.ireturn, 1) := by decide +kernel
theorem dX7_zones_0 : decode cX7_zones 0 = .ok (.iconst 0, 1) := by decide +kernel
theorem dX7_zones_1 : decode cX7_zones 1 = .ok (.istore_n 2, 1) := by decide +kernel
theorem dX7_zones_2 : decode cX7_zones 2 = .ok (.iconst 0, 1) := by decide +kernel
theorem dX7_zones_3 : decode cX7_zones 3 = .ok (.istore_n 3, 1) := by decide +kernel
theorem dX7_zones_4 : decode cX7_zones 4 = .ok (.iload_n 3, 1) := by decide +kernel
theorem dX7_zones_5 : decode cX7_zones 5 = .ok (.aload_n 0, 1) := by decide +kernel
theorem dX7_zones_6 : decode cX7_zones 6 = .ok (.getfield 87, 3) := by decide +kernel
theorem dX7_zones_9 : decode cX7_zones 9 = .ok (.if_icmp .ge 31, 3) := by decide +kernel
theorem dX7_zones_12 : decode cX7_zones 12 = .ok (.aload_n 0, 1) := by decide +kernel
theorem dX7_zones_13 : decode cX7_zones 13 = .ok (.iload_n 3, 1) := by decide +kernel
theorem dX7_zones_14 : decode cX7_zones 14 = .ok (.invokevirtual 209, 3) := by decide +kernel
theorem dX7_zones_17 : decode cX7_zones 17 = .ok (.ifCond .eq 17, 3) := by decide +kernel
theorem dX7_zones_20 : decode cX7_zones 20 = .ok (.iload_n 2, 1) := by decide +kernel
theorem dX7_zones_21 : decode cX7_zones 21 = .ok (.iload_n 1, 1) := by decide +kernel
theorem dX7_zones_22 : decode cX7_zones 22 = .ok (.if_icmp .ne 9, 3) := by decide +kernel
theorem dX7_zones_25 : decode cX7_zones 25 = .ok (.aload_n 0, 1) := by decide +kernel
theorem dX7_zones_26 : decode cX7_zones 26 = .ok (.iload_n 3, 1) := by decide +kernel
theorem dX7_zones_27 : decode cX7_zones 27 = .ok (.invokevirtual 206, 3) := by decide +kernel
theorem dX7_zones_30 : decode cX7_zones 30 = .ok (.ireturn, 1) := by decide +kernel
theorem dX7_zones_31 : decode cX7_zones 31 = .ok (.iinc 2 1, 3) := by decide +kernel
theorem dX7_zones_34 : decode cX7_zones 34 = .ok (.iinc 3 1, 3) := by decide +kernel
theorem dX7_zones_37 : decode cX7_zones 37 = .ok (.goto (-33), 3) := by decide +kernel
theorem dX7_zones_40 : decode cX7_zones 40 = .ok (.iload_n 1, 1) := by decide +kernel
theorem dX7_zones_41 : decode cX7_zones 41 = .ok (.iconst (-1), 1) := by decide +kernel
theorem dX7_zones_42 : decode cX7_zones 42 = .ok (.if_icmp .ne 7, 3) := by decide +kernel
theorem dX7_zones_45 : decode cX7_zones 45 = .ok (.iload_n 2, 1) := by decide +kernel
theorem dX7_zones_46 : decode cX7_zones 46 = .ok (.goto 4, 3) := by decide +kernel
theorem dX7_zones_49 : decode cX7_zones 49 = .ok (.iconst (-1), 1) := by decide +kernel
theorem dX7_zones_50 : decode cX7_zones 50 = .ok (.ireturn, 1) := by decide +kernel
theorem dX7_levelOf_0 : decode cX7_levelOf 0 = .ok (.iconst 0, 1) := by decide +kernel
theorem dX7_levelOf_1 : decode cX7_levelOf 1 = .ok (.istore_n 2, 1) := by decide +kernel
theorem dX7_levelOf_2 : decode cX7_levelOf 2 = .ok (.iload_n 2, 1) := by decide +kernel
theorem dX7_levelOf_3 : decode cX7_levelOf 3 = .ok (.aload_n 0, 1) := by decide +kernel
theorem dX7_levelOf_4 : decode cX7_levelOf 4 = .ok (.getfield 130, 3) := by decide +kernel
end
section
theorem dX7_levelOf_7 : decode cX7_levelOf 7 = .ok (.if_icmp .ge 16, 3) := by decide +kernel
theorem dX7_levelOf_10 : decode cX7_levelOf 10 = .ok (.aload_n 0, 1) := by decide +kernel
theorem dX7_levelOf_11 : decode cX7_levelOf 11 = .ok (.getfield 40, 3) := by decide +kernel
theorem dX7_levelOf_14 : decode cX7_levelOf 14 = .ok (.iload_n 2, 1) := by decide +kernel
theorem dX7_levelOf_15 : decode cX7_levelOf 15 = .ok (.iconst 0, 1) := by decide +kernel
theorem dX7_levelOf_16 : decode cX7_levelOf 16 = .ok (.iastore, 1) := by decide +kernel
theorem dX7_levelOf_17 : decode cX7_levelOf 17 = .ok (.iinc 2 1, 3) := by decide +kernel
theorem dX7_levelOf_20 : decode cX7_levelOf 20 = .ok (.goto (-18), 3) := by decide +kernel
theorem dX7_levelOf_23 : decode cX7_levelOf 23 = .ok (.iconst 0, 1) := by decide +kernel
theorem dX7_levelOf_24 : decode cX7_levelOf 24 = .ok (.istore_n 2, 1) := by decide +kernel
theorem dX7_levelOf_25 : decode cX7_levelOf 25 = .ok (.iload_n 2, 1) := by decide +kernel
theorem dX7_levelOf_26 : decode cX7_levelOf 26 = .ok (.aload_n 0, 1) := by decide +kernel
theorem dX7_levelOf_27 : decode cX7_levelOf 27 = .ok (.getfield 130, 3) := by decide +kernel
theorem dX7_levelOf_30 : decode cX7_levelOf 30 = .ok (.if_icmp .ge 110, 3) := by decide +kernel
theorem dX7_levelOf_33 : decode cX7_levelOf 33 = .ok (.iconst 0, 1) := by decide +kernel
theorem dX7_levelOf_34 : decode cX7_levelOf 34 = .ok (.istore_n 3, 1) := by decide +kernel
theorem dX7_levelOf_35 : decode cX7_levelOf 35 = .ok (.iload_n 3, 1) := by decide +kernel
theorem dX7_levelOf_36 : decode cX7_levelOf 36 = .ok (.aload_n 0, 1) := by decide +kernel
theorem dX7_levelOf_37 : decode cX7_levelOf 37 = .ok (.getfield 130, 3) := by decide +kernel
theorem dX7_levelOf_40 : decode cX7_levelOf 40 = .ok (.if_icmp .ge 94, 3) := by decide +kernel
theorem dX7_levelOf_43 : decode cX7_levelOf 43 = .ok (.iconst 0, 1) := by decide +kernel
theorem dX7_levelOf_44 : decode cX7_levelOf 44 = .ok (.istore 4, 2) := by decide +kernel
theorem dX7_levelOf_46 : decode cX7_levelOf 46 = .ok (.iload 4, 2) := by decide +kernel
theorem dX7_levelOf_48 : decode cX7_levelOf 48 = .ok (.aload_n 0, 1) := by decide +kernel
theorem dX7_levelOf_49 : decode cX7_levelOf 49 = .ok (.getfield 130, 3) := by decide +kernel
theorem dX7_levelOf_52 : decode cX7_levelOf 52 = .ok (.if_icmp .ge 76, 3) := by decide +kernel
theorem dX7_levelOf_55 : decode cX7_levelOf 55 = .ok (.aload_n 0, 1) := by decide +kernel
theorem dX7_levelOf_56 : decode cX7_levelOf 56 = .ok (.getfield 25, 3) := by decide +kernel
theorem dX7_levelOf_59 : decode cX7_levelOf 59 = .ok (.iload_n 3, 1) := by decide +kernel
theorem dX7_levelOf_60 : decode cX7_levelOf 60 = .ok (.iaload, 1) := by decide +kernel
theorem dX7_levelOf_61 : decode cX7_levelOf 61 = .ok (.iload 4, 2) := by decide +kernel
theorem dX7_levelOf_63 : decode cX7_levelOf 63 = .ok (.invokestatic 43, 3) := by decide +kernel
theorem dX7_levelOf_66 : decode cX7_levelOf 66 = .ok (.ifCond .eq 23, 3) := by decide +kernel
theorem dX7_levelOf_69 : decode cX7_levelOf 69 = .ok (.aload_n 0, 1) := by decide +kernel
theorem dX7_levelOf_70 : decode cX7_levelOf 70 = .ok (.getfield 40, 3) := by decide +kernel
theorem dX7_levelOf_73 : decode cX7_levelOf 73 = .ok (.iload 4, 2) := by decide +kernel
theorem dX7_levelOf_75 : decode cX7_levelOf 75 = .ok (.iaload, 1) := by decide +kernel
theorem dX7_levelOf_76 : decode cX7_levelOf 76 = .ok (.aload_n 0, 1) := by decide +kernel
theorem dX7_levelOf_77 : decode cX7_levelOf 77 = .ok (.getfield 40, 3) := by decide +kernel
theorem dX7_levelOf_80 : decode cX7_levelOf 80 = .ok (.iload_n 3, 1) := by decide +kernel
theorem dX7_levelOf_81 : decode cX7_levelOf 81 = .ok (.iaload, 1) := by decide +kernel
theorem dX7_levelOf_82 : decode cX7_levelOf 82 = .ok (.if_icmp .gt 7, 3) := by decide +kernel
theorem dX7_levelOf_85 : decode cX7_levelOf 85 = .ok (.iconst 1, 1) := by decide +kernel
theorem dX7_levelOf_86 : decode cX7_levelOf 86 = .ok (.goto 4, 3) := by decide +kernel
theorem dX7_levelOf_89 : decode cX7_levelOf 89 = .ok (.iconst 0, 1) := by decide +kernel
theorem dX7_levelOf_90 : decode cX7_levelOf 90 = .ok (.istore 5, 2) := by decide +kernel
theorem dX7_levelOf_92 : decode cX7_levelOf 92 = .ok (.aload_n 0, 1) := by decide +kernel
theorem dX7_levelOf_93 : decode cX7_levelOf 93 = .ok (.getfield 40, 3) := by decide +kernel
theorem dX7_levelOf_96 : decode cX7_levelOf 96 = .ok (.iload 4, 2) := by decide +kernel
theorem dX7_levelOf_98 : decode cX7_levelOf 98 = .ok (.iload 5, 2) := by decide +kernel
theorem dX7_levelOf_100 : decode cX7_levelOf 100 = .ok (.ifCond .eq 14, 3) := by decide +kernel
theorem dX7_levelOf_103 : decode cX7_levelOf 103 = .ok (.aload_n 0, 1) := by decide +kernel
theorem dX7_levelOf_104 : decode cX7_levelOf 104 = .ok (.getfield 40, 3) := by decide +kernel
theorem dX7_levelOf_107 : decode cX7_levelOf 107 = .ok (.iload_n 3, 1) := by decide +kernel
theorem dX7_levelOf_108 : decode cX7_levelOf 108 = .ok (.iaload, 1) := by decide +kernel
theorem dX7_levelOf_109 : decode cX7_levelOf 109 = .ok (.iconst 1, 1) := by decide +kernel
theorem dX7_levelOf_110 : decode cX7_levelOf 110 = .ok (.iadd, 1) := by decide +kernel
theorem dX7_levelOf_111 : decode cX7_levelOf 111 = .ok (.goto 10, 3) := by decide +kernel
theorem dX7_levelOf_114 : decode cX7_levelOf 114 = .ok (.aload_n 0, 1) := by decide +kernel
theorem dX7_levelOf_115 : decode cX7_levelOf 115 = .ok (.getfield 40, 3) := by decide +kernel
theorem dX7_levelOf_118 : decode cX7_levelOf 118 = .ok (.iload 4, 2) := by decide +kernel
theorem dX7_levelOf_120 : decode cX7_levelOf 120 = .ok (.iaload, 1) := by decide +kernel
theorem dX7_levelOf_121 : decode cX7_levelOf 121 = .ok (.iastore, 1) := by decide +kernel
theorem dX7_levelOf_122 : decode cX7_levelOf 122 = .ok (.iinc 4 1, 3) := by decide +kernel
theorem dX7_levelOf_125 : decode cX7_levelOf 125 = .ok (.goto (-79), 3) := by decide +kernel
theorem dX7_levelOf_128 : decode cX7_levelOf 128 = .ok (.iinc 3 1, 3) := by decide +kernel
theorem dX7_levelOf_131 : decode cX7_levelOf 131 = .ok (.goto (-96), 3) := by decide +kernel
theorem dX7_levelOf_134 : decode cX7_levelOf 134 = .ok (.iinc 2 1, 3) := by decide +kernel
theorem dX7_levelOf_137 : decode cX7_levelOf 137 = .ok (.goto (-112), 3) := by decide +kernel
theorem dX7_levelOf_140 : decode cX7_levelOf 140 = .ok (.aload_n 0, 1) := by decide +kernel
theorem dX7_levelOf_141 : decode cX7_levelOf 141 = .ok (.getfield 40, 3) := by decide +kernel
theorem dX7_levelOf_144 : decode cX7_levelOf 144 = .ok (.iload_n 1, 1) := by decide +kernel
theorem dX7_levelOf_145 : decode cX7_levelOf 145 = .ok (.iaload, 1) := by decide +kernel
theorem dX7_levelOf_146 : decode cX7_levelOf 146 = .ok (.ireturn, 1) := by decide +kernel
theorem dX7_level_0 : decode cX7_level 0 = .ok (.aload_n 0, 1) := by decide +kernel
theorem dX7_level_1 : decode cX7_level 1 = .ok (.getfield 156, 3) := by decide +kernel
theorem dX7_level_4 : decode cX7_level 4 = .ok (.ifCond .le 5, 3) := by decide +kernel
theorem dX7_level_7 : decode cX7_level 7 = .ok (.iconst (-1), 1) := by decide +kernel
theorem dX7_level_8 : decode cX7_level 8 = .ok (.ireturn, 1) := by decide +kernel
theorem dX7_level_9 : decode cX7_level 9 = .ok (.aload_n 0, 1) := by decide +kernel
theorem dX7_level_10 : decode cX7_level 10 = .ok (.iload_n 1, 1) := by decide +kernel
theorem dX7_level_11 : decode cX7_level 11 = .ok (.invokevirtual 212, 3) := by decide +kernel
theorem dX7_level_14 : decode cX7_level 14 = .ok (.ireturn, 1) := by decide +kernel
theorem dX7_chain_0 : decode cX7_chain 0 = .ok (.iconst 0, 1) := by decide +kernel
theorem dX7_chain_1 : decode cX7_chain 1 = .ok (.istore_n 1, 1) := by decide +kernel
theorem dX7_chain_2 : decode cX7_chain 2 = .ok (.iconst 0, 1) := by decide +kernel
theorem dX7_chain_3 : decode cX7_chain 3 = .ok (.istore_n 2, 1) := by decide +kernel
theorem dX7_chain_4 : decode cX7_chain 4 = .ok (.iload_n 2, 1) := by decide +kernel
theorem dX7_chain_5 : decode cX7_chain 5 = .ok (.aload_n 0, 1) := by decide +kernel
theorem dX7_chain_6 : decode cX7_chain 6 = .ok (.getfield 130, 3) := by decide +kernel
theorem dX7_chain_9 : decode cX7_chain 9 = .ok (.if_icmp .ge 28, 3) := by decide +kernel
theorem dX7_chain_12 : decode cX7_chain 12 = .ok (.aload_n 0, 1) := by decide +kernel
theorem dX7_chain_13 : decode cX7_chain 13 = .ok (.iload_n 2, 1) := by decide +kernel
theorem dX7_chain_14 : decode cX7_chain 14 = .ok (.invokevirtual 215, 3) := by decide +kernel
theorem dX7_chain_17 : decode cX7_chain 17 = .ok (.iconst 1, 1) := by decide +kernel
theorem dX7_chain_18 : decode cX7_chain 18 = .ok (.iadd, 1) := by decide +kernel
theorem dX7_chain_19 : decode cX7_chain 19 = .ok (.istore_n 3, 1) := by decide +kernel
theorem dX7_chain_20 : decode cX7_chain 20 = .ok (.iload_n 3, 1) := by decide +kernel
theorem dX7_chain_21 : decode cX7_chain 21 = .ok (.iload_n 1, 1) := by decide +kernel
theorem dX7_chain_22 : decode cX7_chain 22 = .ok (.if_icmp .le 7, 3) := by decide +kernel
theorem dX7_chain_25 : decode cX7_chain 25 = .ok (.iload_n 3, 1) := by decide +kernel
theorem dX7_chain_26 : decode cX7_chain 26 = .ok (.goto 4, 3) := by decide +kernel
theorem dX7_chain_29 : decode cX7_chain 29 = .ok (.iload_n 1, 1) := by decide +kernel
theorem dX7_chain_30 : decode cX7_chain 30 = .ok (.istore_n 1, 1) := by decide +kernel
theorem dX7_chain_31 : decode cX7_chain 31 = .ok (.iinc 2 1, 3) := by decide +kernel
theorem dX7_chain_34 : decode cX7_chain 34 = .ok (.goto (-30), 3) := by decide +kernel
theorem dX7_chain_37 : decode cX7_chain 37 = .ok (.aload_n 0, 1) := by decide +kernel
theorem dX7_chain_38 : decode cX7_chain 38 = .ok (.getfield 156, 3) := by decide +kernel
theorem dX7_chain_41 : decode cX7_chain 41 = .ok (.ifCond .le 7, 3) := by decide +kernel
theorem dX7_chain_44 : decode cX7_chain 44 = .ok (.iconst (-1), 1) := by decide +kernel
theorem dX7_chain_45 : decode cX7_chain 45 = .ok (.goto 4, 3) := by decide +kernel
theorem dX7_chain_48 : decode cX7_chain 48 = .ok (.iload_n 1, 1) := by decide +kernel
theorem dX7_chain_49 : decode cX7_chain 49 = .ok (.ireturn, 1) := by decide +kernel
theorem dX7_breakBy_0 : decode cX7_breakBy 0 = .ok (.iconst 0, 1) := by decide +kernel
theorem dX7_breakBy_1 : decode cX7_breakBy 1 = .ok (.istore_n 2, 1) := by decide +kernel
theorem dX7_breakBy_2 : decode cX7_breakBy 2 = .ok (.iload_n 2, 1) := by decide +kernel
theorem dX7_breakBy_3 : decode cX7_breakBy 3 = .ok (.bipush 64, 2) := by decide +kernel
theorem dX7_breakBy_5 : decode cX7_breakBy 5 = .ok (.if_icmp .ge 31, 3) := by decide +kernel
theorem dX7_breakBy_8 : decode cX7_breakBy 8 = .ok (.iload_n 2, 1) := by decide +kernel
theorem dX7_breakBy_9 : decode cX7_breakBy 9 = .ok (.invokestatic 191, 3) := by decide +kernel
theorem dX7_breakBy_12 : decode cX7_breakBy 12 = .ok (.iload_n 1, 1) := by decide +kernel
theorem dX7_breakBy_13 : decode cX7_breakBy 13 = .ok (.if_icmp .ne 17, 3) := by decide +kernel
theorem dX7_breakBy_16 : decode cX7_breakBy 16 = .ok (.aload_n 0, 1) := by decide +kernel
theorem dX7_breakBy_17 : decode cX7_breakBy 17 = .ok (.iload_n 2, 1) := by decide +kernel
theorem dX7_breakBy_18 : decode cX7_breakBy 18 = .ok (.invokevirtual 169, 3) := by decide +kernel
theorem dX7_breakBy_21 : decode cX7_breakBy 21 = .ok (.aload_n 0, 1) := by decide +kernel
theorem dX7_breakBy_22 : decode cX7_breakBy 22 = .ok (.invokevirtual 162, 3) := by decide +kernel
theorem dX7_breakBy_25 : decode cX7_breakBy 25 = .ok (.ifCond .ne 5, 3) := by decide +kernel
theorem dX7_breakBy_28 : decode cX7_breakBy 28 = .ok (.iload_n 2, 1) := by decide +kernel
theorem dX7_breakBy_29 : decode cX7_breakBy 29 = .ok (.ireturn, 1) := by decide +kernel
theorem dX7_breakBy_30 : decode cX7_breakBy 30 = .ok (.iinc 2 1, 3) := by decide +kernel
theorem dX7_breakBy_33 : decode cX7_breakBy 33 = .ok (.goto (-31), 3) := by decide +kernel
theorem dX7_breakBy_36 : decode cX7_breakBy 36 = .ok (.iconst (-1), 1) := by decide +kernel
theorem dX7_breakBy_37 : decode cX7_breakBy 37 = .ok (.ireturn, 1) := by decide +kernel
theorem dX7_breakNow_0 : decode cX7_breakNow 0 = .ok (.iconst (-1), 1) := by decide +kernel
theorem dX7_breakNow_1 : decode cX7_breakNow 1 = .ok (.istore_n 1, 1) := by decide +kernel
theorem dX7_breakNow_2 : decode cX7_breakNow 2 = .ok (.iconst 0, 1) := by decide +kernel
theorem dX7_breakNow_3 : decode cX7_breakNow 3 = .ok (.istore_n 2, 1) := by decide +kernel
theorem dX7_breakNow_4 : decode cX7_breakNow 4 = .ok (.iload_n 2, 1) := by decide +kernel
theorem dX7_breakNow_5 : decode cX7_breakNow 5 = .ok (.bipush 6, 2) := by decide +kernel
theorem dX7_breakNow_7 : decode cX7_breakNow 7 = .ok (.if_icmp .gt 20, 3) := by decide +kernel
theorem dX7_breakNow_10 : decode cX7_breakNow 10 = .ok (.iload_n 1, 1) := by decide +kernel
theorem dX7_breakNow_11 : decode cX7_breakNow 11 = .ok (.iconst (-1), 1) := by decide +kernel
theorem dX7_breakNow_12 : decode cX7_breakNow 12 = .ok (.if_icmp .ne 15, 3) := by decide +kernel
theorem dX7_breakNow_15 : decode cX7_breakNow 15 = .ok (.aload_n 0, 1) := by decide +kernel
theorem dX7_breakNow_16 : decode cX7_breakNow 16 = .ok (.iload_n 2, 1) := by decide +kernel
theorem dX7_breakNow_17 : decode cX7_breakNow 17 = .ok (.invokevirtual 218, 3) := by decide +kernel
theorem dX7_breakNow_20 : decode cX7_breakNow 20 = .ok (.istore_n 1, 1) := by decide +kernel
theorem dX7_breakNow_21 : decode cX7_breakNow 21 = .ok (.iinc 2 1, 3) := by decide +kernel
theorem dX7_breakNow_24 : decode cX7_breakNow 24 = .ok (.goto (-20), 3) := by decide +kernel
theorem dX7_breakNow_27 : decode cX7_breakNow 27 = .ok (.aload_n 0, 1) := by decide +kernel
theorem dX7_breakNow_28 : decode cX7_breakNow 28 = .ok (.aload_n 0, 1) := by decide +kernel
theorem dX7_breakNow_29 : decode cX7_breakNow 29 = .ok (.getfield 93, 3) := by decide +kernel
theorem dX7_breakNow_32 : decode cX7_breakNow 32 = .ok (.invokevirtual 169, 3) := by decide +kernel
theorem dX7_breakNow_35 : decode cX7_breakNow 35 = .ok (.iload_n 1, 1) := by decide +kernel
theorem dX7_breakNow_36 : decode cX7_breakNow 36 = .ok (.ireturn, 1) := by decide +kernel
theorem dX7_aboutNow_0 : decode cX7_aboutNow 0 = .ok (.iload_n 1, 1) := by decide +kernel
theorem dX7_aboutNow_1 : decode cX7_aboutNow 1 = .ok (.tableswitch 105 0 8 #[51, 56, 61, 66, 71, 76, 81, 87, 92], 51) := by decide +kernel
theorem dX7_aboutNow_52 : decode cX7_aboutNow 52 = .ok (.aload_n 0, 1) := by decide +kernel
theorem dX7_aboutNow_53 : decode cX7_aboutNow 53 = .ok (.getfield 87, 3) := by decide +kernel
theorem dX7_aboutNow_56 : decode cX7_aboutNow 56 = .ok (.ireturn, 1) := by decide +kernel
theorem dX7_aboutNow_57 : decode cX7_aboutNow 57 = .ok (.aload_n 0, 1) := by decide +kernel
theorem dX7_aboutNow_58 : decode cX7_aboutNow 58 = .ok (.getfield 130, 3) := by decide +kernel
theorem dX7_aboutNow_61 : decode cX7_aboutNow 61 = .ok (.ireturn, 1) := by decide +kernel
theorem dX7_aboutNow_62 : decode cX7_aboutNow 62 = .ok (.aload_n 0, 1) := by decide +kernel
theorem dX7_aboutNow_63 : decode cX7_aboutNow 63 = .ok (.invokevirtual 221, 3) := by decide +kernel
theorem dX7_aboutNow_66 : decode cX7_aboutNow 66 = .ok (.ireturn, 1) := by decide +kernel
theorem dX7_aboutNow_67 : decode cX7_aboutNow 67 = .ok (.aload_n 0, 1) := by decide +kernel
theorem dX7_aboutNow_68 : decode cX7_aboutNow 68 = .ok (.invokevirtual 224, 3) := by decide +kernel
theorem dX7_aboutNow_71 : decode cX7_aboutNow 71 = .ok (.ireturn, 1) := by decide +kernel
theorem dX7_aboutNow_72 : decode cX7_aboutNow 72 = .ok (.aload_n 0, 1) := by decide +kernel
theorem dX7_aboutNow_73 : decode cX7_aboutNow 73 = .ok (.getfield 156, 3) := by decide +kernel
theorem dX7_aboutNow_76 : decode cX7_aboutNow 76 = .ok (.ireturn, 1) := by decide +kernel
theorem dX7_aboutNow_77 : decode cX7_aboutNow 77 = .ok (.aload_n 0, 1) := by decide +kernel
theorem dX7_aboutNow_78 : decode cX7_aboutNow 78 = .ok (.invokevirtual 227, 3) := by decide +kernel
theorem dX7_aboutNow_81 : decode cX7_aboutNow 81 = .ok (.ireturn, 1) := by decide +kernel
theorem dX7_aboutNow_82 : decode cX7_aboutNow 82 = .ok (.aload_n 0, 1) := by decide +kernel
theorem dX7_aboutNow_83 : decode cX7_aboutNow 83 = .ok (.iconst (-1), 1) := by decide +kernel
theorem dX7_aboutNow_84 : decode cX7_aboutNow 84 = .ok (.invokevirtual 230, 3) := by decide +kernel
theorem dX7_aboutNow_87 : decode cX7_aboutNow 87 = .ok (.ireturn, 1) := by decide +kernel
theorem dX7_aboutNow_88 : decode cX7_aboutNow 88 = .ok (.aload_n 0, 1) := by decide +kernel
theorem dX7_aboutNow_89 : decode cX7_aboutNow 89 = .ok (.invokevirtual 185, 3) := by decide +kernel
theorem dX7_aboutNow_92 : decode cX7_aboutNow 92 = .ok (.ireturn, 1) := by decide +kernel
theorem dX7_aboutNow_93 : decode cX7_aboutNow 93 = .ok (.aload_n 0, 1) := by decide +kernel
theorem dX7_aboutNow_94 : decode cX7_aboutNow 94 = .ok (.invokevirtual 233, 3) := by decide +kernel
theorem dX7_aboutNow_97 : decode cX7_aboutNow 97 = .ok (.ifCond .eq 7, 3) := by decide +kernel
theorem dX7_aboutNow_100 : decode cX7_aboutNow 100 = .ok (.iconst 1, 1) := by decide +kernel
theorem dX7_aboutNow_101 : decode cX7_aboutNow 101 = .ok (.goto 4, 3) := by decide +kernel
theorem dX7_aboutNow_104 : decode cX7_aboutNow 104 = .ok (.iconst 0, 1) := by decide +kernel
theorem dX7_aboutNow_105 : decode cX7_aboutNow 105 = .ok (.ireturn, 1) := by decide +kernel
theorem dX7_aboutNow_106 : decode cX7_aboutNow 106 = .ok (.aload_n 0, 1) := by decide +kernel
theorem dX7_aboutNow_107 : decode cX7_aboutNow 107 = .ok (.invokevirtual 236, 3) := by decide +kernel
theorem dX7_aboutNow_110 : decode cX7_aboutNow 110 = .ok (.ireturn, 1) := by decide +kernel
theorem dX7_about_0 : decode cX7_about 0 = .ok (.iload_n 1, 1) := by decide +kernel
theorem dX7_about_1 : decode cX7_about 1 = .ok (.iconst 0, 1) := by decide +kernel
theorem dX7_about_2 : decode cX7_about 2 = .ok (.bipush 9, 2) := by decide +kernel
theorem dX7_about_4 : decode cX7_about 4 = .ok (.invokestatic 47, 3) := by decide +kernel
theorem dX7_about_7 : decode cX7_about 7 = .ok (.ifCond .ne 6, 3) := by decide +kernel
theorem dX7_about_10 : decode cX7_about 10 = .ok (.bipush (-102), 2) := by decide +kernel
theorem dX7_about_12 : decode cX7_about 12 = .ok (.ireturn, 1) := by decide +kernel
theorem dX7_about_13 : decode cX7_about 13 = .ok (.aload_n 0, 1) := by decide +kernel
theorem dX7_about_14 : decode cX7_about 14 = .ok (.invokevirtual 197, 3) := by decide +kernel
theorem dX7_about_17 : decode cX7_about 17 = .ok (.ifCond .eq 11, 3) := by decide +kernel
theorem dX7_about_20 : decode cX7_about 20 = .ok (.aload_n 0, 1) := by decide +kernel
theorem dX7_about_21 : decode cX7_about 21 = .ok (.iload_n 1, 1) := by decide +kernel
theorem dX7_about_22 : decode cX7_about 22 = .ok (.invokevirtual 239, 3) := by decide +kernel
theorem dX7_about_25 : decode cX7_about 25 = .ok (.goto 5, 3) := by decide +kernel
theorem dX7_about_28 : decode cX7_about 28 = .ok (.bipush (-103), 2) := by decide +kernel
theorem dX7_about_30 : decode cX7_about 30 = .ok (.ireturn, 1) := by decide +kernel
theorem dX7_pin_0 : decode cX7_pin 0 = .ok (.aload_n 0, 1) := by decide +kernel
theorem dX7_pin_1 : decode cX7_pin 1 = .ok (.iload_n 1, 1) := by decide +kernel
theorem dX7_pin_2 : decode cX7_pin 2 = .ok (.invokevirtual 242, 3) := by decide +kernel
theorem dX7_pin_5 : decode cX7_pin 5 = .ok (.ifCond .ne 8, 3) := by decide +kernel
theorem dX7_pin_8 : decode cX7_pin 8 = .ok (.bipush (-101), 2) := by decide +kernel
theorem dX7_pin_10 : decode cX7_pin 10 = .ok (.goto 27, 3) := by decide +kernel
theorem dX7_pin_13 : decode cX7_pin 13 = .ok (.iload_n 2, 1) := by decide +kernel
theorem dX7_pin_14 : decode cX7_pin 14 = .ok (.iconst 0, 1) := by decide +kernel
theorem dX7_pin_15 : decode cX7_pin 15 = .ok (.iconst 1, 1) := by decide +kernel
theorem dX7_pin_16 : decode cX7_pin 16 = .ok (.invokestatic 47, 3) := by decide +kernel
theorem dX7_pin_19 : decode cX7_pin 19 = .ok (.ifCond .eq 16, 3) := by decide +kernel
theorem dX7_pin_22 : decode cX7_pin 22 = .ok (.aload_n 0, 1) := by decide +kernel
theorem dX7_pin_23 : decode cX7_pin 23 = .ok (.getfield 7, 3) := by decide +kernel
theorem dX7_pin_26 : decode cX7_pin 26 = .ok (.iconst 2, 1) := by decide +kernel
theorem dX7_pin_27 : decode cX7_pin 27 = .ok (.iload_n 1, 1) := by decide +kernel
theorem dX7_pin_28 : decode cX7_pin 28 = .ok (.imul, 1) := by decide +kernel
theorem dX7_pin_29 : decode cX7_pin 29 = .ok (.iload_n 2, 1) := by decide +kernel
theorem dX7_pin_30 : decode cX7_pin 30 = .ok (.iadd, 1) := by decide +kernel
theorem dX7_pin_31 : decode cX7_pin 31 = .ok (.iaload, 1) := by decide +kernel
theorem dX7_pin_32 : decode cX7_pin 32 = .ok (.goto 5, 3) := by decide +kernel
theorem dX7_pin_35 : decode cX7_pin 35 = .ok (.bipush (-102), 2) := by decide +kernel
theorem dX7_pin_37 : decode cX7_pin 37 = .ok (.ireturn, 1) := by decide +kernel
theorem dX7_pinsOf_0 : decode cX7_pinsOf 0 = .ok (.iconst 0, 1) := by decide +kernel
theorem dX7_pinsOf_1 : decode cX7_pinsOf 1 = .ok (.istore_n 2, 1) := by decide +kernel
theorem dX7_pinsOf_2 : decode cX7_pinsOf 2 = .ok (.iconst 0, 1) := by decide +kernel
theorem dX7_pinsOf_3 : decode cX7_pinsOf 3 = .ok (.istore_n 3, 1) := by decide +kernel
theorem dX7_pinsOf_4 : decode cX7_pinsOf 4 = .ok (.iload_n 3, 1) := by decide +kernel
theorem dX7_pinsOf_5 : decode cX7_pinsOf 5 = .ok (.iconst 2, 1) := by decide +kernel
theorem dX7_pinsOf_6 : decode cX7_pinsOf 6 = .ok (.aload_n 0, 1) := by decide +kernel
theorem dX7_pinsOf_7 : decode cX7_pinsOf 7 = .ok (.getfield 87, 3) := by decide +kernel
theorem dX7_pinsOf_10 : decode cX7_pinsOf 10 = .ok (.imul, 1) := by decide +kernel
theorem dX7_pinsOf_11 : decode cX7_pinsOf 11 = .ok (.if_icmp .ge 27, 3) := by decide +kernel
theorem dX7_pinsOf_14 : decode cX7_pinsOf 14 = .ok (.iload_n 2, 1) := by decide +kernel
theorem dX7_pinsOf_15 : decode cX7_pinsOf 15 = .ok (.aload_n 0, 1) := by decide +kernel
theorem dX7_pinsOf_16 : decode cX7_pinsOf 16 = .ok (.getfield 7, 3) := by decide +kernel
theorem dX7_pinsOf_19 : decode cX7_pinsOf 19 = .ok (.iload_n 3, 1) := by decide +kernel
theorem dX7_pinsOf_20 : decode cX7_pinsOf 20 = .ok (.iaload, 1) := by decide +kernel
theorem dX7_pinsOf_21 : decode cX7_pinsOf 21 = .ok (.iload_n 1, 1) := by decide +kernel
theorem dX7_pinsOf_22 : decode cX7_pinsOf 22 = .ok (.if_icmp .ne 7, 3) := by decide +kernel
theorem dX7_pinsOf_25 : decode cX7_pinsOf 25 = .ok (.iconst 1, 1) := by decide +kernel
theorem dX7_pinsOf_26 : decode cX7_pinsOf 26 = .ok (.goto 4, 3) := by decide +kernel
theorem dX7_pinsOf_29 : decode cX7_pinsOf 29 = .ok (.iconst 0, 1) := by decide +kernel
theorem dX7_pinsOf_30 : decode cX7_pinsOf 30 = .ok (.iadd, 1) := by decide +kernel
theorem dX7_pinsOf_31 : decode cX7_pinsOf 31 = .ok (.istore_n 2, 1) := by decide +kernel
theorem dX7_pinsOf_32 : decode cX7_pinsOf 32 = .ok (.iinc 3 1, 3) := by decide +kernel
theorem dX7_pinsOf_35 : decode cX7_pinsOf 35 = .ok (.goto (-31), 3) := by decide +kernel
theorem dX7_pinsOf_38 : decode cX7_pinsOf 38 = .ok (.iload_n 2, 1) := by decide +kernel
theorem dX7_pinsOf_39 : decode cX7_pinsOf 39 = .ok (.ireturn, 1) := by decide +kernel
theorem dX7_isNetThere_0 : decode cX7_isNetThere 0 = .ok (.iload_n 1, 1) := by decide +kernel
theorem dX7_isNetThere_1 : decode cX7_isNetThere 1 = .ok (.iconst 0, 1) := by decide +kernel
theorem dX7_isNetThere_2 : decode cX7_isNetThere 2 = .ok (.iconst 5, 1) := by decide +kernel
theorem dX7_isNetThere_3 : decode cX7_isNetThere 3 = .ok (.invokestatic 47, 3) := by decide +kernel
theorem dX7_isNetThere_6 : decode cX7_isNetThere 6 = .ok (.ifCond .eq 15, 3) := by decide +kernel
theorem dX7_isNetThere_9 : decode cX7_isNetThere 9 = .ok (.aload_n 0, 1) := by decide +kernel
theorem dX7_isNetThere_10 : decode cX7_isNetThere 10 = .ok (.iload_n 1, 1) := by decide +kernel
theorem dX7_isNetThere_11 : decode cX7_isNetThere 11 = .ok (.invokevirtual 245, 3) := by decide +kernel
theorem dX7_isNetThere_14 : decode cX7_isNetThere 14 = .ok (.ifCond .le 7, 3) := by decide +kernel
theorem dX7_isNetThere_17 : decode cX7_isNetThere 17 = .ok (.iconst 1, 1) := by decide +kernel
theorem dX7_isNetThere_18 : decode cX7_isNetThere 18 = .ok (.goto 4, 3) := by decide +kernel
theorem dX7_isNetThere_21 : decode cX7_isNetThere 21 = .ok (.iconst 0, 1) := by decide +kernel
theorem dX7_isNetThere_22 : decode cX7_isNetThere 22 = .ok (.ireturn, 1) := by decide +kernel
theorem dX7_firstPin_0 : decode cX7_firstPin 0 = .ok (.iconst 0, 1) := by decide +kernel
theorem dX7_firstPin_1 : decode cX7_firstPin 1 = .ok (.istore_n 2, 1) := by decide +kernel
theorem dX7_firstPin_2 : decode cX7_firstPin 2 = .ok (.aload_n 0, 1) := by decide +kernel
theorem dX7_firstPin_3 : decode cX7_firstPin 3 = .ok (.iload_n 1, 1) := by decide +kernel
theorem dX7_firstPin_4 : decode cX7_firstPin 4 = .ok (.iload_n 2, 1) := by decide +kernel
theorem dX7_firstPin_5 : decode cX7_firstPin 5 = .ok (.invokevirtual 133, 3) := by decide +kernel
theorem dX7_firstPin_8 : decode cX7_firstPin 8 = .ok (.ifCond .ne 9, 3) := by decide +kernel
theorem dX7_firstPin_11 : decode cX7_firstPin 11 = .ok (.iinc 2 1, 3) := by decide +kernel
theorem dX7_firstPin_14 : decode cX7_firstPin 14 = .ok (.goto (-12), 3) := by decide +kernel
theorem dX7_firstPin_17 : decode cX7_firstPin 17 = .ok (.iload_n 2, 1) := by decide +kernel
theorem dX7_firstPin_18 : decode cX7_firstPin 18 = .ok (.ireturn, 1) := by decide +kernel
theorem dX7_lastPin_0 : decode cX7_lastPin 0 = .ok (.aload_n 0, 1) := by decide +kernel
theorem dX7_lastPin_1 : decode cX7_lastPin 1 = .ok (.getfield 87, 3) := by decide +kernel
theorem dX7_lastPin_4 : decode cX7_lastPin 4 = .ok (.iconst 1, 1) := by decide +kernel
theorem dX7_lastPin_5 : decode cX7_lastPin 5 = .ok (.isub, 1) := by decide +kernel
theorem dX7_lastPin_6 : decode cX7_lastPin 6 = .ok (.istore_n 2, 1) := by decide +kernel
theorem dX7_lastPin_7 : decode cX7_lastPin 7 = .ok (.aload_n 0, 1) := by decide +kernel
theorem dX7_lastPin_8 : decode cX7_lastPin 8 = .ok (.iload_n 1, 1) := by decide +kernel
theorem dX7_lastPin_9 : decode cX7_lastPin 9 = .ok (.iload_n 2, 1) := by decide +kernel
theorem dX7_lastPin_10 : decode cX7_lastPin 10 = .ok (.invokevirtual 133, 3) := by decide +kernel
theorem dX7_lastPin_13 : decode cX7_lastPin 13 = .ok (.ifCond .ne 9, 3) := by decide +kernel
theorem dX7_lastPin_16 : decode cX7_lastPin 16 = .ok (.iinc 2 (-1), 3) := by decide +kernel
theorem dX7_lastPin_19 : decode cX7_lastPin 19 = .ok (.goto (-12), 3) := by decide +kernel
theorem dX7_lastPin_22 : decode cX7_lastPin 22 = .ok (.iload_n 2, 1) := by decide +kernel
theorem dX7_lastPin_23 : decode cX7_lastPin 23 = .ok (.ireturn, 1) := by decide +kernel
theorem dX7_segmentsOf_0 : decode cX7_segmentsOf 0 = .ok (.iconst 0, 1) := by decide +kernel
theorem dX7_segmentsOf_1 : decode cX7_segmentsOf 1 = .ok (.istore_n 2, 1) := by decide +kernel
theorem dX7_segmentsOf_2 : decode cX7_segmentsOf 2 = .ok (.iconst 0, 1) := by decide +kernel
theorem dX7_segmentsOf_3 : decode cX7_segmentsOf 3 = .ok (.istore_n 3, 1) := by decide +kernel
theorem dX7_segmentsOf_4 : decode cX7_segmentsOf 4 = .ok (.iload_n 3, 1) := by decide +kernel
theorem dX7_segmentsOf_5 : decode cX7_segmentsOf 5 = .ok (.aload_n 0, 1) := by decide +kernel
theorem dX7_segmentsOf_6 : decode cX7_segmentsOf 6 = .ok (.getfield 130, 3) := by decide +kernel
theorem dX7_segmentsOf_9 : decode cX7_segmentsOf 9 = .ok (.if_icmp .ge 27, 3) := by decide +kernel
theorem dX7_segmentsOf_12 : decode cX7_segmentsOf 12 = .ok (.iload_n 2, 1) := by decide +kernel
theorem dX7_segmentsOf_13 : decode cX7_segmentsOf 13 = .ok (.aload_n 0, 1) := by decide +kernel
theorem dX7_segmentsOf_14 : decode cX7_segmentsOf 14 = .ok (.getfield 13, 3) := by decide +kernel
theorem dX7_segmentsOf_17 : decode cX7_segmentsOf 17 = .ok (.iload_n 3, 1) := by decide +kernel
theorem dX7_segmentsOf_18 : decode cX7_segmentsOf 18 = .ok (.iaload, 1) := by decide +kernel
theorem dX7_segmentsOf_19 : decode cX7_segmentsOf 19 = .ok (.iload_n 1, 1) := by decide +kernel
theorem dX7_segmentsOf_20 : decode cX7_segmentsOf 20 = .ok (.if_icmp .ne 7, 3) := by decide +kernel
theorem dX7_segmentsOf_23 : decode cX7_segmentsOf 23 = .ok (.iconst 1, 1) := by decide +kernel
theorem dX7_segmentsOf_24 : decode cX7_segmentsOf 24 = .ok (.goto 4, 3) := by decide +kernel
theorem dX7_segmentsOf_27 : decode cX7_segmentsOf 27 = .ok (.iconst 0, 1) := by decide +kernel
theorem dX7_segmentsOf_28 : decode cX7_segmentsOf 28 = .ok (.iadd, 1) := by decide +kernel
theorem dX7_segmentsOf_29 : decode cX7_segmentsOf 29 = .ok (.istore_n 2, 1) := by decide +kernel
theorem dX7_segmentsOf_30 : decode cX7_segmentsOf 30 = .ok (.iinc 3 1, 3) := by decide +kernel
theorem dX7_segmentsOf_33 : decode cX7_segmentsOf 33 = .ok (.goto (-29), 3) := by decide +kernel
theorem dX7_segmentsOf_36 : decode cX7_segmentsOf 36 = .ok (.iload_n 2, 1) := by decide +kernel
theorem dX7_segmentsOf_37 : decode cX7_segmentsOf 37 = .ok (.ireturn, 1) := by decide +kernel
theorem dX7_netNow_0 : decode cX7_netNow 0 = .ok (.iload_n 2, 1) := by decide +kernel
theorem dX7_netNow_1 : decode cX7_netNow 1 = .ok (.tableswitch 58 0 3 #[31, 37, 43, 49], 31) := by decide +kernel
theorem dX7_netNow_32 : decode cX7_netNow 32 = .ok (.aload_n 0, 1) := by decide +kernel
theorem dX7_netNow_33 : decode cX7_netNow 33 = .ok (.iload_n 1, 1) := by decide +kernel
theorem dX7_netNow_34 : decode cX7_netNow 34 = .ok (.invokevirtual 245, 3) := by decide +kernel
theorem dX7_netNow_37 : decode cX7_netNow 37 = .ok (.ireturn, 1) := by decide +kernel
theorem dX7_netNow_38 : decode cX7_netNow 38 = .ok (.aload_n 0, 1) := by decide +kernel
theorem dX7_netNow_39 : decode cX7_netNow 39 = .ok (.iload_n 1, 1) := by decide +kernel
theorem dX7_netNow_40 : decode cX7_netNow 40 = .ok (.invokevirtual 248, 3) := by decide +kernel
theorem dX7_netNow_43 : decode cX7_netNow 43 = .ok (.ireturn, 1) := by decide +kernel
theorem dX7_netNow_44 : decode cX7_netNow 44 = .ok (.aload_n 0, 1) := by decide +kernel
theorem dX7_netNow_45 : decode cX7_netNow 45 = .ok (.iload_n 1, 1) := by decide +kernel
theorem dX7_netNow_46 : decode cX7_netNow 46 = .ok (.invokevirtual 251, 3) := by decide +kernel
theorem dX7_netNow_49 : decode cX7_netNow 49 = .ok (.ireturn, 1) := by decide +kernel
theorem dX7_netNow_50 : decode cX7_netNow 50 = .ok (.aload_n 0, 1) := by decide +kernel
theorem dX7_netNow_51 : decode cX7_netNow 51 = .ok (.getfield 93, 3) := by decide +kernel
theorem dX7_netNow_54 : decode cX7_netNow 54 = .ok (.iload_n 1, 1) := by decide +kernel
theorem dX7_netNow_55 : decode cX7_netNow 55 = .ok (.ishr, 1) := by decide +kernel
theorem dX7_netNow_56 : decode cX7_netNow 56 = .ok (.iconst 1, 1) := by decide +kernel
theorem dX7_netNow_57 : decode cX7_netNow 57 = .ok (.iand, 1) := by decide +kernel
theorem dX7_netNow_58 : decode cX7_netNow 58 = .ok (.ireturn, 1) := by decide +kernel
theorem dX7_netNow_59 : decode cX7_netNow 59 = .ok (.aload_n 0, 1) := by decide +kernel
theorem dX7_netNow_60 : decode cX7_netNow 60 = .ok (.iload_n 1, 1) := by decide +kernel
theorem dX7_netNow_61 : decode cX7_netNow 61 = .ok (.invokevirtual 254, 3) := by decide +kernel
theorem dX7_netNow_64 : decode cX7_netNow 64 = .ok (.ireturn, 1) := by decide +kernel
theorem dX7_net_0 : decode cX7_net 0 = .ok (.aload_n 0, 1) := by decide +kernel
theorem dX7_net_1 : decode cX7_net 1 = .ok (.iload_n 1, 1) := by decide +kernel
theorem dX7_net_2 : decode cX7_net 2 = .ok (.invokevirtual 257, 3) := by decide +kernel
theorem dX7_net_5 : decode cX7_net 5 = .ok (.ifCond .ne 8, 3) := by decide +kernel
theorem dX7_net_8 : decode cX7_net 8 = .ok (.bipush (-101), 2) := by decide +kernel
theorem dX7_net_10 : decode cX7_net 10 = .ok (.goto 23, 3) := by decide +kernel
theorem dX7_net_13 : decode cX7_net 13 = .ok (.iload_n 2, 1) := by decide +kernel
theorem dX7_net_14 : decode cX7_net 14 = .ok (.iconst 0, 1) := by decide +kernel
theorem dX7_net_15 : decode cX7_net 15 = .ok (.iconst 4, 1) := by decide +kernel
theorem dX7_net_16 : decode cX7_net 16 = .ok (.invokestatic 47, 3) := by decide +kernel
theorem dX7_net_19 : decode cX7_net 19 = .ok (.ifCond .eq 12, 3) := by decide +kernel
theorem dX7_net_22 : decode cX7_net 22 = .ok (.aload_n 0, 1) := by decide +kernel
theorem dX7_net_23 : decode cX7_net 23 = .ok (.iload_n 1, 1) := by decide +kernel
theorem dX7_net_24 : decode cX7_net 24 = .ok (.iload_n 2, 1) := by decide +kernel
theorem dX7_net_25 : decode cX7_net 25 = .ok (.invokevirtual 260, 3) := by decide +kernel
theorem dX7_net_28 : decode cX7_net 28 = .ok (.goto 5, 3) := by decide +kernel
theorem dX7_net_31 : decode cX7_net 31 = .ok (.bipush (-102), 2) := by decide +kernel
theorem dX7_net_33 : decode cX7_net 33 = .ok (.ireturn, 1) := by decide +kernel
theorem dX7_isSegment_0 : decode cX7_isSegment 0 = .ok (.iload_n 1, 1) := by decide +kernel
theorem dX7_isSegment_1 : decode cX7_isSegment 1 = .ok (.iconst 0, 1) := by decide +kernel
theorem dX7_isSegment_2 : decode cX7_isSegment 2 = .ok (.aload_n 0, 1) := by decide +kernel
theorem dX7_isSegment_3 : decode cX7_isSegment 3 = .ok (.getfield 130, 3) := by decide +kernel
theorem dX7_isSegment_6 : decode cX7_isSegment 6 = .ok (.iconst 1, 1) := by decide +kernel
theorem dX7_isSegment_7 : decode cX7_isSegment 7 = .ok (.isub, 1) := by decide +kernel
theorem dX7_isSegment_8 : decode cX7_isSegment 8 = .ok (.invokestatic 47, 3) := by decide +kernel
theorem dX7_isSegment_11 : decode cX7_isSegment 11 = .ok (.ireturn, 1) := by decide +kernel
theorem dX7_overIt_0 : decode cX7_overIt 0 = .ok (.iconst 0, 1) := by decide +kernel
theorem dX7_overIt_1 : decode cX7_overIt 1 = .ok (.istore_n 2, 1) := by decide +kernel
theorem dX7_overIt_2 : decode cX7_overIt 2 = .ok (.iconst 0, 1) := by decide +kernel
theorem dX7_overIt_3 : decode cX7_overIt 3 = .ok (.istore_n 3, 1) := by decide +kernel
theorem dX7_overIt_4 : decode cX7_overIt 4 = .ok (.iload_n 3, 1) := by decide +kernel
theorem dX7_overIt_5 : decode cX7_overIt 5 = .ok (.aload_n 0, 1) := by decide +kernel
theorem dX7_overIt_6 : decode cX7_overIt 6 = .ok (.getfield 130, 3) := by decide +kernel
theorem dX7_overIt_9 : decode cX7_overIt 9 = .ok (.if_icmp .ge 22, 3) := by decide +kernel
theorem dX7_overIt_12 : decode cX7_overIt 12 = .ok (.iload_n 2, 1) := by decide +kernel
theorem dX7_overIt_13 : decode cX7_overIt 13 = .ok (.aload_n 0, 1) := by decide +kernel
theorem dX7_overIt_14 : decode cX7_overIt 14 = .ok (.getfield 25, 3) := by decide +kernel
theorem dX7_overIt_17 : decode cX7_overIt 17 = .ok (.iload_n 3, 1) := by decide +kernel
theorem dX7_overIt_18 : decode cX7_overIt 18 = .ok (.iaload, 1) := by decide +kernel
theorem dX7_overIt_19 : decode cX7_overIt 19 = .ok (.iload_n 1, 1) := by decide +kernel
theorem dX7_overIt_20 : decode cX7_overIt 20 = .ok (.ishr, 1) := by decide +kernel
theorem dX7_overIt_21 : decode cX7_overIt 21 = .ok (.iconst 1, 1) := by decide +kernel
theorem dX7_overIt_22 : decode cX7_overIt 22 = .ok (.iand, 1) := by decide +kernel
theorem dX7_overIt_23 : decode cX7_overIt 23 = .ok (.iadd, 1) := by decide +kernel
theorem dX7_overIt_24 : decode cX7_overIt 24 = .ok (.istore_n 2, 1) := by decide +kernel
theorem dX7_overIt_25 : decode cX7_overIt 25 = .ok (.iinc 3 1, 3) := by decide +kernel
theorem dX7_overIt_28 : decode cX7_overIt 28 = .ok (.goto (-24), 3) := by decide +kernel
theorem dX7_overIt_31 : decode cX7_overIt 31 = .ok (.iload_n 2, 1) := by decide +kernel
theorem dX7_overIt_32 : decode cX7_overIt 32 = .ok (.ireturn, 1) := by decide +kernel
theorem dX7_segmentNow_0 : decode cX7_segmentNow 0 = .ok (.iload_n 2, 1) := by decide +kernel
theorem dX7_segmentNow_1 : decode cX7_segmentNow 1 = .ok (.tableswitch 83 0 5 #[39, 46, 53, 60, 67, 77], 39) := by decide +kernel
theorem dX7_segmentNow_40 : decode cX7_segmentNow 40 = .ok (.aload_n 0, 1) := by decide +kernel
theorem dX7_segmentNow_41 : decode cX7_segmentNow 41 = .ok (.getfield 13, 3) := by decide +kernel
theorem dX7_segmentNow_44 : decode cX7_segmentNow 44 = .ok (.iload_n 1, 1) := by decide +kernel
theorem dX7_segmentNow_45 : decode cX7_segmentNow 45 = .ok (.iaload, 1) := by decide +kernel
theorem dX7_segmentNow_46 : decode cX7_segmentNow 46 = .ok (.ireturn, 1) := by decide +kernel
theorem dX7_segmentNow_47 : decode cX7_segmentNow 47 = .ok (.aload_n 0, 1) := by decide +kernel
theorem dX7_segmentNow_48 : decode cX7_segmentNow 48 = .ok (.getfield 16, 3) := by decide +kernel
theorem dX7_segmentNow_51 : decode cX7_segmentNow 51 = .ok (.iload_n 1, 1) := by decide +kernel
theorem dX7_segmentNow_52 : decode cX7_segmentNow 52 = .ok (.iaload, 1) := by decide +kernel
theorem dX7_segmentNow_53 : decode cX7_segmentNow 53 = .ok (.ireturn, 1) := by decide +kernel
theorem dX7_segmentNow_54 : decode cX7_segmentNow 54 = .ok (.aload_n 0, 1) := by decide +kernel
theorem dX7_segmentNow_55 : decode cX7_segmentNow 55 = .ok (.getfield 19, 3) := by decide +kernel
theorem dX7_segmentNow_58 : decode cX7_segmentNow 58 = .ok (.iload_n 1, 1) := by decide +kernel
theorem dX7_segmentNow_59 : decode cX7_segmentNow 59 = .ok (.iaload, 1) := by decide +kernel
theorem dX7_segmentNow_60 : decode cX7_segmentNow 60 = .ok (.ireturn, 1) := by decide +kernel
theorem dX7_segmentNow_61 : decode cX7_segmentNow 61 = .ok (.aload_n 0, 1) := by decide +kernel
theorem dX7_segmentNow_62 : decode cX7_segmentNow 62 = .ok (.getfield 22, 3) := by decide +kernel
theorem dX7_segmentNow_65 : decode cX7_segmentNow 65 = .ok (.iload_n 1, 1) := by decide +kernel
theorem dX7_segmentNow_66 : decode cX7_segmentNow 66 = .ok (.iaload, 1) := by decide +kernel
theorem dX7_segmentNow_67 : decode cX7_segmentNow 67 = .ok (.ireturn, 1) := by decide +kernel
theorem dX7_segmentNow_68 : decode cX7_segmentNow 68 = .ok (.aload_n 0, 1) := by decide +kernel
theorem dX7_segmentNow_69 : decode cX7_segmentNow 69 = .ok (.getfield 25, 3) := by decide +kernel
theorem dX7_segmentNow_72 : decode cX7_segmentNow 72 = .ok (.iload_n 1, 1) := by decide +kernel
theorem dX7_segmentNow_73 : decode cX7_segmentNow 73 = .ok (.iaload, 1) := by decide +kernel
theorem dX7_segmentNow_74 : decode cX7_segmentNow 74 = .ok (.invokestatic 191, 3) := by decide +kernel
theorem dX7_segmentNow_77 : decode cX7_segmentNow 77 = .ok (.ireturn, 1) := by decide +kernel
theorem dX7_segmentNow_78 : decode cX7_segmentNow 78 = .ok (.aload_n 0, 1) := by decide +kernel
theorem dX7_segmentNow_79 : decode cX7_segmentNow 79 = .ok (.iload_n 1, 1) := by decide +kernel
theorem dX7_segmentNow_80 : decode cX7_segmentNow 80 = .ok (.invokevirtual 263, 3) := by decide +kernel
theorem dX7_segmentNow_83 : decode cX7_segmentNow 83 = .ok (.ireturn, 1) := by decide +kernel
theorem dX7_segmentNow_84 : decode cX7_segmentNow 84 = .ok (.aload_n 0, 1) := by decide +kernel
theorem dX7_segmentNow_85 : decode cX7_segmentNow 85 = .ok (.iload_n 1, 1) := by decide +kernel
theorem dX7_segmentNow_86 : decode cX7_segmentNow 86 = .ok (.invokevirtual 215, 3) := by decide +kernel
theorem dX7_segmentNow_89 : decode cX7_segmentNow 89 = .ok (.ireturn, 1) := by decide +kernel
theorem dX7_segment_0 : decode cX7_segment 0 = .ok (.aload_n 0, 1) := by decide +kernel
theorem dX7_segment_1 : decode cX7_segment 1 = .ok (.iload_n 1, 1) := by decide +kernel
theorem dX7_segment_2 : decode cX7_segment 2 = .ok (.invokevirtual 266, 3) := by decide +kernel
theorem dX7_segment_5 : decode cX7_segment 5 = .ok (.ifCond .ne 8, 3) := by decide +kernel
theorem dX7_segment_8 : decode cX7_segment 8 = .ok (.bipush (-101), 2) := by decide +kernel
theorem dX7_segment_10 : decode cX7_segment 10 = .ok (.goto 24, 3) := by decide +kernel
theorem dX7_segment_13 : decode cX7_segment 13 = .ok (.iload_n 2, 1) := by decide +kernel
theorem dX7_segment_14 : decode cX7_segment 14 = .ok (.iconst 0, 1) := by decide +kernel
theorem dX7_segment_15 : decode cX7_segment 15 = .ok (.bipush 6, 2) := by decide +kernel
theorem dX7_segment_17 : decode cX7_segment 17 = .ok (.invokestatic 47, 3) := by decide +kernel
theorem dX7_segment_20 : decode cX7_segment 20 = .ok (.ifCond .eq 12, 3) := by decide +kernel
theorem dX7_segment_23 : decode cX7_segment 23 = .ok (.aload_n 0, 1) := by decide +kernel
theorem dX7_segment_24 : decode cX7_segment 24 = .ok (.iload_n 1, 1) := by decide +kernel
theorem dX7_segment_25 : decode cX7_segment 25 = .ok (.iload_n 2, 1) := by decide +kernel
theorem dX7_segment_26 : decode cX7_segment 26 = .ok (.invokevirtual 269, 3) := by decide +kernel
theorem dX7_segment_29 : decode cX7_segment 29 = .ok (.goto 5, 3) := by decide +kernel
theorem dX7_segment_32 : decode cX7_segment 32 = .ok (.bipush (-102), 2) := by decide +kernel
theorem dX7_segment_34 : decode cX7_segment 34 = .ok (.ireturn, 1) := by decide +kernel
theorem dX7_above_0 : decode cX7_above 0 = .ok (.aload_n 0, 1) := by decide +kernel
theorem dX7_above_1 : decode cX7_above 1 = .ok (.iload_n 1, 1) := by decide +kernel
theorem dX7_above_2 : decode cX7_above 2 = .ok (.invokevirtual 266, 3) := by decide +kernel
theorem dX7_above_5 : decode cX7_above 5 = .ok (.ifCond .eq 24, 3) := by decide +kernel
theorem dX7_above_8 : decode cX7_above 8 = .ok (.aload_n 0, 1) := by decide +kernel
theorem dX7_above_9 : decode cX7_above 9 = .ok (.iload_n 2, 1) := by decide +kernel
theorem dX7_above_10 : decode cX7_above 10 = .ok (.invokevirtual 266, 3) := by decide +kernel
theorem dX7_above_13 : decode cX7_above 13 = .ok (.ifCond .eq 16, 3) := by decide +kernel
theorem dX7_above_16 : decode cX7_above 16 = .ok (.aload_n 0, 1) := by decide +kernel
theorem dX7_above_17 : decode cX7_above 17 = .ok (.getfield 25, 3) := by decide +kernel
theorem dX7_above_20 : decode cX7_above 20 = .ok (.iload_n 1, 1) := by decide +kernel
theorem dX7_above_21 : decode cX7_above 21 = .ok (.iaload, 1) := by decide +kernel
theorem dX7_above_22 : decode cX7_above 22 = .ok (.iload_n 2, 1) := by decide +kernel
theorem dX7_above_23 : decode cX7_above 23 = .ok (.ishr, 1) := by decide +kernel
theorem dX7_above_24 : decode cX7_above 24 = .ok (.iconst 1, 1) := by decide +kernel
theorem dX7_above_25 : decode cX7_above 25 = .ok (.iand, 1) := by decide +kernel
theorem dX7_above_26 : decode cX7_above 26 = .ok (.goto 5, 3) := by decide +kernel
theorem dX7_above_29 : decode cX7_above 29 = .ok (.bipush (-101), 2) := by decide +kernel
theorem dX7_above_31 : decode cX7_above 31 = .ok (.ireturn, 1) := by decide +kernel
theorem dX7_isFree_0 : decode cX7_isFree 0 = .ok (.aload_n 0, 1) := by decide +kernel
theorem dX7_isFree_1 : decode cX7_isFree 1 = .ok (.iload_n 1, 1) := by decide +kernel
theorem dX7_isFree_2 : decode cX7_isFree 2 = .ok (.iload_n 2, 1) := by decide +kernel
theorem dX7_isFree_3 : decode cX7_isFree 3 = .ok (.invokevirtual 179, 3) := by decide +kernel
theorem dX7_isFree_6 : decode cX7_isFree 6 = .ok (.ifCond .ne 33, 3) := by decide +kernel
theorem dX7_isFree_9 : decode cX7_isFree 9 = .ok (.aload_n 0, 1) := by decide +kernel
theorem dX7_isFree_10 : decode cX7_isFree 10 = .ok (.getfield 28, 3) := by decide +kernel
theorem dX7_isFree_13 : decode cX7_isFree 13 = .ok (.iload_n 1, 1) := by decide +kernel
theorem dX7_isFree_14 : decode cX7_isFree 14 = .ok (.iaload, 1) := by decide +kernel
theorem dX7_isFree_15 : decode cX7_isFree 15 = .ok (.iload_n 2, 1) := by decide +kernel
theorem dX7_isFree_16 : decode cX7_isFree 16 = .ok (.invokestatic 43, 3) := by decide +kernel
theorem dX7_isFree_19 : decode cX7_isFree 19 = .ok (.ifCond .ne 20, 3) := by decide +kernel
theorem dX7_isFree_22 : decode cX7_isFree 22 = .ok (.aload_n 0, 1) := by decide +kernel
theorem dX7_isFree_23 : decode cX7_isFree 23 = .ok (.getfield 28, 3) := by decide +kernel
theorem dX7_isFree_26 : decode cX7_isFree 26 = .ok (.iload_n 2, 1) := by decide +kernel
theorem dX7_isFree_27 : decode cX7_isFree 27 = .ok (.iaload, 1) := by decide +kernel
theorem dX7_isFree_28 : decode cX7_isFree 28 = .ok (.iload_n 1, 1) := by decide +kernel
theorem dX7_isFree_29 : decode cX7_isFree 29 = .ok (.invokestatic 43, 3) := by decide +kernel
theorem dX7_isFree_32 : decode cX7_isFree 32 = .ok (.ifCond .ne 7, 3) := by decide +kernel
theorem dX7_isFree_35 : decode cX7_isFree 35 = .ok (.iconst 1, 1) := by decide +kernel
theorem dX7_isFree_36 : decode cX7_isFree 36 = .ok (.goto 4, 3) := by decide +kernel
theorem dX7_isFree_39 : decode cX7_isFree 39 = .ok (.iconst 0, 1) := by decide +kernel
theorem dX7_isFree_40 : decode cX7_isFree 40 = .ok (.ireturn, 1) := by decide +kernel
theorem dX7_may_0 : decode cX7_may 0 = .ok (.aload_n 0, 1) := by decide +kernel
theorem dX7_may_1 : decode cX7_may 1 = .ok (.iload_n 1, 1) := by decide +kernel
theorem dX7_may_2 : decode cX7_may 2 = .ok (.invokevirtual 266, 3) := by decide +kernel
theorem dX7_may_5 : decode cX7_may 5 = .ok (.ifCond .eq 11, 3) := by decide +kernel
theorem dX7_may_8 : decode cX7_may 8 = .ok (.aload_n 0, 1) := by decide +kernel
theorem dX7_may_9 : decode cX7_may 9 = .ok (.iload_n 2, 1) := by decide +kernel
theorem dX7_may_10 : decode cX7_may 10 = .ok (.invokevirtual 266, 3) := by decide +kernel
theorem dX7_may_13 : decode cX7_may 13 = .ok (.ifCond .ne 8, 3) := by decide +kernel
theorem dX7_may_16 : decode cX7_may 16 = .ok (.bipush (-101), 2) := by decide +kernel
theorem dX7_may_18 : decode cX7_may 18 = .ok (.goto 17, 3) := by decide +kernel
theorem dX7_may_21 : decode cX7_may 21 = .ok (.aload_n 0, 1) := by decide +kernel
theorem dX7_may_22 : decode cX7_may 22 = .ok (.iload_n 1, 1) := by decide +kernel
theorem dX7_may_23 : decode cX7_may 23 = .ok (.iload_n 2, 1) := by decide +kernel
theorem dX7_may_24 : decode cX7_may 24 = .ok (.invokevirtual 272, 3) := by decide +kernel
theorem dX7_may_27 : decode cX7_may 27 = .ok (.ifCond .eq 7, 3) := by decide +kernel
theorem dX7_may_30 : decode cX7_may 30 = .ok (.iconst 1, 1) := by decide +kernel
theorem dX7_may_31 : decode cX7_may 31 = .ok (.goto 4, 3) := by decide +kernel
theorem dX7_may_34 : decode cX7_may 34 = .ok (.iconst 0, 1) := by decide +kernel
theorem dX7_may_35 : decode cX7_may 35 = .ok (.ireturn, 1) := by decide +kernel
theorem dX7_ring_0 : decode cX7_ring 0 = .ok (.iload_n 1, 1) := by decide +kernel
theorem dX7_ring_1 : decode cX7_ring 1 = .ok (.iconst 0, 1) := by decide +kernel
theorem dX7_ring_2 : decode cX7_ring 2 = .ok (.aload_n 0, 1) := by decide +kernel
theorem dX7_ring_3 : decode cX7_ring 3 = .ok (.getfield 156, 3) := by decide +kernel
theorem dX7_ring_6 : decode cX7_ring 6 = .ok (.iconst 1, 1) := by decide +kernel
theorem dX7_ring_7 : decode cX7_ring 7 = .ok (.isub, 1) := by decide +kernel
theorem dX7_ring_8 : decode cX7_ring 8 = .ok (.invokestatic 47, 3) := by decide +kernel
theorem dX7_ring_11 : decode cX7_ring 11 = .ok (.ifCond .eq 12, 3) := by decide +kernel
theorem dX7_ring_14 : decode cX7_ring 14 = .ok (.aload_n 0, 1) := by decide +kernel
theorem dX7_ring_15 : decode cX7_ring 15 = .ok (.getfield 31, 3) := by decide +kernel
theorem dX7_ring_18 : decode cX7_ring 18 = .ok (.iload_n 1, 1) := by decide +kernel
theorem dX7_ring_19 : decode cX7_ring 19 = .ok (.iaload, 1) := by decide +kernel
theorem dX7_ring_20 : decode cX7_ring 20 = .ok (.goto 5, 3) := by decide +kernel
theorem dX7_ring_23 : decode cX7_ring 23 = .ok (.bipush (-101), 2) := by decide +kernel
theorem dX7_ring_25 : decode cX7_ring 25 = .ok (.ireturn, 1) := by decide +kernel
theorem dX7_zone_0 : decode cX7_zone 0 = .ok (.iload_n 1, 1) := by decide +kernel
theorem dX7_zone_1 : decode cX7_zone 1 = .ok (.ifCond .lt 20, 3) := by decide +kernel
theorem dX7_zone_4 : decode cX7_zone 4 = .ok (.aload_n 0, 1) := by decide +kernel
theorem dX7_zone_5 : decode cX7_zone 5 = .ok (.iload_n 1, 1) := by decide +kernel
theorem dX7_zone_6 : decode cX7_zone 6 = .ok (.invokevirtual 230, 3) := by decide +kernel
theorem dX7_zone_9 : decode cX7_zone 9 = .ok (.iconst (-1), 1) := by decide +kernel
theorem dX7_zone_10 : decode cX7_zone 10 = .ok (.if_icmp .eq 11, 3) := by decide +kernel
theorem dX7_zone_13 : decode cX7_zone 13 = .ok (.aload_n 0, 1) := by decide +kernel
theorem dX7_zone_14 : decode cX7_zone 14 = .ok (.iload_n 1, 1) := by decide +kernel
theorem dX7_zone_15 : decode cX7_zone 15 = .ok (.invokevirtual 230, 3) := by decide +kernel
theorem dX7_zone_18 : decode cX7_zone 18 = .ok (.goto 5, 3) := by decide +kernel
theorem dX7_zone_21 : decode cX7_zone 21 = .ok (.bipush (-101), 2) := by decide +kernel
theorem dX7_zone_23 : decode cX7_zone 23 = .ok (.ireturn, 1) := by decide +kernel
theorem dX7_put_0 : decode cX7_put 0 = .ok (.aload_n 0, 1) := by decide +kernel
theorem dX7_put_1 : decode cX7_put 1 = .ok (.iload_n 1, 1) := by decide +kernel
theorem dX7_put_2 : decode cX7_put 2 = .ok (.invokevirtual 242, 3) := by decide +kernel
theorem dX7_put_5 : decode cX7_put 5 = .ok (.ifCond .ne 6, 3) := by decide +kernel
theorem dX7_put_8 : decode cX7_put 8 = .ok (.bipush (-101), 2) := by decide +kernel
theorem dX7_put_10 : decode cX7_put 10 = .ok (.ireturn, 1) := by decide +kernel
theorem dX7_put_11 : decode cX7_put 11 = .ok (.iload_n 2, 1) := by decide +kernel
theorem dX7_put_12 : decode cX7_put 12 = .ok (.iconst 0, 1) := by decide +kernel
theorem dX7_put_13 : decode cX7_put 13 = .ok (.iconst 1, 1) := by decide +kernel
theorem dX7_put_14 : decode cX7_put 14 = .ok (.invokestatic 47, 3) := by decide +kernel
theorem dX7_put_17 : decode cX7_put 17 = .ok (.ifCond .eq 12, 3) := by decide +kernel
theorem dX7_put_20 : decode cX7_put 20 = .ok (.iload_n 3, 1) := by decide +kernel
theorem dX7_put_21 : decode cX7_put 21 = .ok (.iconst (-1), 1) := by decide +kernel
theorem dX7_put_22 : decode cX7_put 22 = .ok (.iconst 5, 1) := by decide +kernel
theorem dX7_put_23 : decode cX7_put 23 = .ok (.invokestatic 47, 3) := by decide +kernel
theorem dX7_put_26 : decode cX7_put 26 = .ok (.ifCond .ne 6, 3) := by decide +kernel
theorem dX7_put_29 : decode cX7_put 29 = .ok (.bipush (-102), 2) := by decide +kernel
theorem dX7_put_31 : decode cX7_put 31 = .ok (.ireturn, 1) := by decide +kernel
theorem dX7_put_32 : decode cX7_put 32 = .ok (.aload_n 0, 1) := by decide +kernel
theorem dX7_put_33 : decode cX7_put 33 = .ok (.getfield 7, 3) := by decide +kernel
theorem dX7_put_36 : decode cX7_put 36 = .ok (.iconst 2, 1) := by decide +kernel
theorem dX7_put_37 : decode cX7_put 37 = .ok (.iload_n 1, 1) := by decide +kernel
theorem dX7_put_38 : decode cX7_put 38 = .ok (.imul, 1) := by decide +kernel
theorem dX7_put_39 : decode cX7_put 39 = .ok (.iload_n 2, 1) := by decide +kernel
theorem dX7_put_40 : decode cX7_put 40 = .ok (.iadd, 1) := by decide +kernel
theorem dX7_put_41 : decode cX7_put 41 = .ok (.iaload, 1) := by decide +kernel
theorem dX7_put_42 : decode cX7_put 42 = .ok (.istore 4, 2) := by decide +kernel
theorem dX7_put_44 : decode cX7_put 44 = .ok (.aload_n 0, 1) := by decide +kernel
theorem dX7_put_45 : decode cX7_put 45 = .ok (.getfield 7, 3) := by decide +kernel
theorem dX7_put_48 : decode cX7_put 48 = .ok (.iconst 2, 1) := by decide +kernel
theorem dX7_put_49 : decode cX7_put 49 = .ok (.iload_n 1, 1) := by decide +kernel
theorem dX7_put_50 : decode cX7_put 50 = .ok (.imul, 1) := by decide +kernel
theorem dX7_put_51 : decode cX7_put 51 = .ok (.iload_n 2, 1) := by decide +kernel
theorem dX7_put_52 : decode cX7_put 52 = .ok (.iadd, 1) := by decide +kernel
theorem dX7_put_53 : decode cX7_put 53 = .ok (.iload_n 3, 1) := by decide +kernel
theorem dX7_put_54 : decode cX7_put 54 = .ok (.iastore, 1) := by decide +kernel
theorem dX7_put_55 : decode cX7_put 55 = .ok (.aload_n 0, 1) := by decide +kernel
theorem dX7_put_56 : decode cX7_put 56 = .ok (.invokevirtual 99, 3) := by decide +kernel
theorem dX7_put_59 : decode cX7_put 59 = .ok (.iload 4, 2) := by decide +kernel
theorem dX7_put_61 : decode cX7_put 61 = .ok (.ireturn, 1) := by decide +kernel
theorem dX7_set_0 : decode cX7_set 0 = .ok (.aload_n 0, 1) := by decide +kernel
theorem dX7_set_1 : decode cX7_set 1 = .ok (.iload_n 1, 1) := by decide +kernel
theorem dX7_set_2 : decode cX7_set 2 = .ok (.invokevirtual 266, 3) := by decide +kernel
theorem dX7_set_5 : decode cX7_set 5 = .ok (.ifCond .ne 6, 3) := by decide +kernel
theorem dX7_set_8 : decode cX7_set 8 = .ok (.bipush (-101), 2) := by decide +kernel
theorem dX7_set_10 : decode cX7_set 10 = .ok (.ireturn, 1) := by decide +kernel
theorem dX7_set_11 : decode cX7_set 11 = .ok (.iload_n 2, 1) := by decide +kernel
theorem dX7_set_12 : decode cX7_set 12 = .ok (.iconst (-1), 1) := by decide +kernel
theorem dX7_set_13 : decode cX7_set 13 = .ok (.bipush 13, 2) := by decide +kernel
theorem dX7_set_15 : decode cX7_set 15 = .ok (.invokestatic 47, 3) := by decide +kernel
theorem dX7_set_18 : decode cX7_set 18 = .ok (.ifCond .ne 6, 3) := by decide +kernel
theorem dX7_set_21 : decode cX7_set 21 = .ok (.bipush (-102), 2) := by decide +kernel
theorem dX7_set_23 : decode cX7_set 23 = .ok (.ireturn, 1) := by decide +kernel
theorem dX7_set_24 : decode cX7_set 24 = .ok (.aload_n 0, 1) := by decide +kernel
theorem dX7_set_25 : decode cX7_set 25 = .ok (.getfield 22, 3) := by decide +kernel
theorem dX7_set_28 : decode cX7_set 28 = .ok (.iload_n 1, 1) := by decide +kernel
theorem dX7_set_29 : decode cX7_set 29 = .ok (.iaload, 1) := by decide +kernel
theorem dX7_set_30 : decode cX7_set 30 = .ok (.istore_n 3, 1) := by decide +kernel
theorem dX7_set_31 : decode cX7_set 31 = .ok (.aload_n 0, 1) := by decide +kernel
theorem dX7_set_32 : decode cX7_set 32 = .ok (.getfield 22, 3) := by decide +kernel
theorem dX7_set_35 : decode cX7_set 35 = .ok (.iload_n 1, 1) := by decide +kernel
theorem dX7_set_36 : decode cX7_set 36 = .ok (.iload_n 2, 1) := by decide +kernel
theorem dX7_set_37 : decode cX7_set 37 = .ok (.iastore, 1) := by decide +kernel
theorem dX7_set_38 : decode cX7_set 38 = .ok (.iload_n 3, 1) := by decide +kernel
theorem dX7_set_39 : decode cX7_set 39 = .ok (.ireturn, 1) := by decide +kernel
theorem dX7_cell_0 : decode cX7_cell 0 = .ok (.aload_n 0, 1) := by decide +kernel
theorem dX7_cell_1 : decode cX7_cell 1 = .ok (.invokevirtual 197, 3) := by decide +kernel
theorem dX7_cell_4 : decode cX7_cell 4 = .ok (.ifCond .eq 25, 3) := by decide +kernel
theorem dX7_cell_7 : decode cX7_cell 7 = .ok (.iload_n 1, 1) := by decide +kernel
theorem dX7_cell_8 : decode cX7_cell 8 = .ok (.iconst 0, 1) := by decide +kernel
theorem dX7_cell_9 : decode cX7_cell 9 = .ok (.aload_n 0, 1) := by decide +kernel
theorem dX7_cell_10 : decode cX7_cell 10 = .ok (.invokevirtual 185, 3) := by decide +kernel
theorem dX7_cell_13 : decode cX7_cell 13 = .ok (.iconst 1, 1) := by decide +kernel
theorem dX7_cell_14 : decode cX7_cell 14 = .ok (.isub, 1) := by decide +kernel
theorem dX7_cell_15 : decode cX7_cell 15 = .ok (.invokestatic 47, 3) := by decide +kernel
theorem dX7_cell_18 : decode cX7_cell 18 = .ok (.ifCond .eq 11, 3) := by decide +kernel
theorem dX7_cell_21 : decode cX7_cell 21 = .ok (.aload_n 0, 1) := by decide +kernel
theorem dX7_cell_22 : decode cX7_cell 22 = .ok (.iload_n 2, 1) := by decide +kernel
theorem dX7_cell_23 : decode cX7_cell 23 = .ok (.invokevirtual 242, 3) := by decide +kernel
theorem dX7_cell_26 : decode cX7_cell 26 = .ok (.ifCond .ne 6, 3) := by decide +kernel
theorem dX7_cell_29 : decode cX7_cell 29 = .ok (.bipush (-101), 2) := by decide +kernel
theorem dX7_cell_31 : decode cX7_cell 31 = .ok (.ireturn, 1) := by decide +kernel
theorem dX7_cell_32 : decode cX7_cell 32 = .ok (.iload_n 3, 1) := by decide +kernel
theorem dX7_cell_33 : decode cX7_cell 33 = .ok (.iconst 0, 1) := by decide +kernel
theorem dX7_cell_34 : decode cX7_cell 34 = .ok (.iconst 1, 1) := by decide +kernel
theorem dX7_cell_35 : decode cX7_cell 35 = .ok (.invokestatic 47, 3) := by decide +kernel
theorem dX7_cell_38 : decode cX7_cell 38 = .ok (.ifCond .ne 8, 3) := by decide +kernel
theorem dX7_cell_41 : decode cX7_cell 41 = .ok (.bipush (-102), 2) := by decide +kernel
theorem dX7_cell_43 : decode cX7_cell 43 = .ok (.goto 25, 3) := by decide +kernel
theorem dX7_cell_46 : decode cX7_cell 46 = .ok (.iload_n 3, 1) := by decide +kernel
theorem dX7_cell_47 : decode cX7_cell 47 = .ok (.ifCond .ne 12, 3) := by decide +kernel
theorem dX7_cell_50 : decode cX7_cell 50 = .ok (.aload_n 0, 1) := by decide +kernel
theorem dX7_cell_51 : decode cX7_cell 51 = .ok (.iload_n 1, 1) := by decide +kernel
theorem dX7_cell_52 : decode cX7_cell 52 = .ok (.iload_n 2, 1) := by decide +kernel
theorem dX7_cell_53 : decode cX7_cell 53 = .ok (.invokevirtual 188, 3) := by decide +kernel
theorem dX7_cell_56 : decode cX7_cell 56 = .ok (.goto 9, 3) := by decide +kernel
theorem dX7_cell_59 : decode cX7_cell 59 = .ok (.aload_n 0, 1) := by decide +kernel
theorem dX7_cell_60 : decode cX7_cell 60 = .ok (.iload_n 1, 1) := by decide +kernel
theorem dX7_cell_61 : decode cX7_cell 61 = .ok (.iload_n 2, 1) := by decide +kernel
theorem dX7_cell_62 : decode cX7_cell 62 = .ok (.invokevirtual 194, 3) := by decide +kernel
theorem dX7_cell_65 : decode cX7_cell 65 = .ok (.invokestatic 159, 3) := by decide +kernel
theorem dX7_cell_68 : decode cX7_cell 68 = .ok (.ireturn, 1) := by decide +kernel
theorem dX7_netsThere_0 : decode cX7_netsThere 0 = .ok (.iconst 0, 1) := by decide +kernel
theorem dX7_netsThere_1 : decode cX7_netsThere 1 = .ok (.istore_n 1, 1) := by decide +kernel
theorem dX7_netsThere_2 : decode cX7_netsThere 2 = .ok (.iconst 0, 1) := by decide +kernel
theorem dX7_netsThere_3 : decode cX7_netsThere 3 = .ok (.istore_n 2, 1) := by decide +kernel
theorem dX7_netsThere_4 : decode cX7_netsThere 4 = .ok (.iload_n 2, 1) := by decide +kernel
theorem dX7_netsThere_5 : decode cX7_netsThere 5 = .ok (.bipush 6, 2) := by decide +kernel
theorem dX7_netsThere_7 : decode cX7_netsThere 7 = .ok (.if_icmp .ge 25, 3) := by decide +kernel
theorem dX7_netsThere_10 : decode cX7_netsThere 10 = .ok (.iload_n 1, 1) := by decide +kernel
theorem dX7_netsThere_11 : decode cX7_netsThere 11 = .ok (.aload_n 0, 1) := by decide +kernel
theorem dX7_netsThere_12 : decode cX7_netsThere 12 = .ok (.iload_n 2, 1) := by decide +kernel
theorem dX7_netsThere_13 : decode cX7_netsThere 13 = .ok (.invokevirtual 245, 3) := by decide +kernel
theorem dX7_netsThere_16 : decode cX7_netsThere 16 = .ok (.ifCond .le 7, 3) := by decide +kernel
theorem dX7_netsThere_19 : decode cX7_netsThere 19 = .ok (.iconst 1, 1) := by decide +kernel
theorem dX7_netsThere_20 : decode cX7_netsThere 20 = .ok (.goto 4, 3) := by decide +kernel
theorem dX7_netsThere_23 : decode cX7_netsThere 23 = .ok (.iconst 0, 1) := by decide +kernel
theorem dX7_netsThere_24 : decode cX7_netsThere 24 = .ok (.iadd, 1) := by decide +kernel
theorem dX7_netsThere_25 : decode cX7_netsThere 25 = .ok (.istore_n 1, 1) := by decide +kernel
theorem dX7_netsThere_26 : decode cX7_netsThere 26 = .ok (.iinc 2 1, 3) := by decide +kernel
theorem dX7_netsThere_29 : decode cX7_netsThere 29 = .ok (.goto (-25), 3) := by decide +kernel
theorem dX7_netsThere_32 : decode cX7_netsThere 32 = .ok (.iload_n 1, 1) := by decide +kernel
theorem dX7_netsThere_33 : decode cX7_netsThere 33 = .ok (.ireturn, 1) := by decide +kernel
theorem dX7_howMany_0 : decode cX7_howMany 0 = .ok (.iload_n 1, 1) := by decide +kernel
theorem dX7_howMany_1 : decode cX7_howMany 1 = .ok (.tableswitch 107 0 8 #[51, 56, 69, 74, 82, 87, 92, 97, 102], 51) := by decide +kernel
theorem dX7_howMany_52 : decode cX7_howMany 52 = .ok (.aload_n 0, 1) := by decide +kernel
theorem dX7_howMany_53 : decode cX7_howMany 53 = .ok (.getfield 87, 3) := by decide +kernel
theorem dX7_howMany_56 : decode cX7_howMany 56 = .ok (.ireturn, 1) := by decide +kernel
theorem dX7_howMany_57 : decode cX7_howMany 57 = .ok (.iconst 2, 1) := by decide +kernel
theorem dX7_howMany_58 : decode cX7_howMany 58 = .ok (.aload_n 0, 1) := by decide +kernel
theorem dX7_howMany_59 : decode cX7_howMany 59 = .ok (.getfield 87, 3) := by decide +kernel
theorem dX7_howMany_62 : decode cX7_howMany 62 = .ok (.imul, 1) := by decide +kernel
theorem dX7_howMany_63 : decode cX7_howMany 63 = .ok (.aload_n 0, 1) := by decide +kernel
theorem dX7_howMany_64 : decode cX7_howMany 64 = .ok (.iconst (-1), 1) := by decide +kernel
theorem dX7_howMany_65 : decode cX7_howMany 65 = .ok (.invokevirtual 245, 3) := by decide +kernel
theorem dX7_howMany_68 : decode cX7_howMany 68 = .ok (.isub, 1) := by decide +kernel
theorem dX7_howMany_69 : decode cX7_howMany 69 = .ok (.ireturn, 1) := by decide +kernel
theorem dX7_howMany_70 : decode cX7_howMany 70 = .ok (.aload_n 0, 1) := by decide +kernel
theorem dX7_howMany_71 : decode cX7_howMany 71 = .ok (.invokevirtual 296, 3) := by decide +kernel
theorem dX7_howMany_74 : decode cX7_howMany 74 = .ok (.ireturn, 1) := by decide +kernel
theorem dX7_howMany_75 : decode cX7_howMany 75 = .ok (.aload_n 0, 1) := by decide +kernel
theorem dX7_howMany_76 : decode cX7_howMany 76 = .ok (.getfield 93, 3) := by decide +kernel
theorem dX7_howMany_79 : decode cX7_howMany 79 = .ok (.invokestatic 191, 3) := by decide +kernel
theorem dX7_howMany_82 : decode cX7_howMany 82 = .ok (.ireturn, 1) := by decide +kernel
theorem dX7_howMany_83 : decode cX7_howMany 83 = .ok (.aload_n 0, 1) := by decide +kernel
theorem dX7_howMany_84 : decode cX7_howMany 84 = .ok (.getfield 130, 3) := by decide +kernel
theorem dX7_howMany_87 : decode cX7_howMany 87 = .ok (.ireturn, 1) := by decide +kernel
theorem dX7_howMany_88 : decode cX7_howMany 88 = .ok (.aload_n 0, 1) := by decide +kernel
theorem dX7_howMany_89 : decode cX7_howMany 89 = .ok (.invokevirtual 275, 3) := by decide +kernel
theorem dX7_howMany_92 : decode cX7_howMany 92 = .ok (.ireturn, 1) := by decide +kernel
theorem dX7_howMany_93 : decode cX7_howMany 93 = .ok (.aload_n 0, 1) := by decide +kernel
theorem dX7_howMany_94 : decode cX7_howMany 94 = .ok (.getfield 51, 3) := by decide +kernel
theorem dX7_howMany_97 : decode cX7_howMany 97 = .ok (.ireturn, 1) := by decide +kernel
theorem dX7_howMany_98 : decode cX7_howMany 98 = .ok (.aload_n 0, 1) := by decide +kernel
theorem dX7_howMany_99 : decode cX7_howMany 99 = .ok (.getfield 96, 3) := by decide +kernel
theorem dX7_howMany_102 : decode cX7_howMany 102 = .ok (.ireturn, 1) := by decide +kernel
theorem dX7_howMany_103 : decode cX7_howMany 103 = .ok (.aload_n 0, 1) := by decide +kernel
theorem dX7_howMany_104 : decode cX7_howMany 104 = .ok (.getfield 290, 3) := by decide +kernel
theorem dX7_howMany_107 : decode cX7_howMany 107 = .ok (.ireturn, 1) := by decide +kernel
theorem dX7_howMany_108 : decode cX7_howMany 108 = .ok (.bipush (-102), 2) := by decide +kernel
theorem dX7_howMany_110 : decode cX7_howMany 110 = .ok (.ireturn, 1) := by decide +kernel
theorem dX7_count_0 : decode cX7_count 0 = .ok (.aload_n 0, 1) := by decide +kernel
theorem dX7_count_1 : decode cX7_count 1 = .ok (.iload_n 1, 1) := by decide +kernel
theorem dX7_count_2 : decode cX7_count 2 = .ok (.invokevirtual 299, 3) := by decide +kernel
theorem dX7_count_5 : decode cX7_count 5 = .ok (.ireturn, 1) := by decide +kernel
theorem dX7_mix_0 : decode cX7_mix 0 = .ok (.aload_n 0, 1) := by decide +kernel
theorem dX7_mix_1 : decode cX7_mix 1 = .ok (.ldc2_w 302, 3) := by decide +kernel
theorem dX7_mix_4 : decode cX7_mix 4 = .ok (.aload_n 0, 1) := by decide +kernel
theorem dX7_mix_5 : decode cX7_mix 5 = .ok (.getfield 304, 3) := by decide +kernel
theorem dX7_mix_8 : decode cX7_mix 8 = .ok (.lmul, 1) := by decide +kernel
theorem dX7_mix_9 : decode cX7_mix 9 = .ok (.lload_n 1, 1) := by decide +kernel
theorem dX7_mix_10 : decode cX7_mix 10 = .ok (.ladd, 1) := by decide +kernel
theorem dX7_mix_11 : decode cX7_mix 11 = .ok (.putfield 304, 3) := by decide +kernel
theorem dX7_mix_14 : decode cX7_mix 14 = .ok (.return_, 1) := by decide +kernel
theorem dX7_mixSegments_0 : decode cX7_mixSegments 0 = .ok (.iconst 0, 1) := by decide +kernel
theorem dX7_mixSegments_1 : decode cX7_mixSegments 1 = .ok (.istore_n 1, 1) := by decide +kernel
theorem dX7_mixSegments_2 : decode cX7_mixSegments 2 = .ok (.iload_n 1, 1) := by decide +kernel
theorem dX7_mixSegments_3 : decode cX7_mixSegments 3 = .ok (.bipush 7, 2) := by decide +kernel
theorem dX7_mixSegments_5 : decode cX7_mixSegments 5 = .ok (.aload_n 0, 1) := by decide +kernel
theorem dX7_mixSegments_6 : decode cX7_mixSegments 6 = .ok (.getfield 130, 3) := by decide +kernel
theorem dX7_mixSegments_9 : decode cX7_mixSegments 9 = .ok (.imul, 1) := by decide +kernel
theorem dX7_mixSegments_10 : decode cX7_mixSegments 10 = .ok (.if_icmp .ge 26, 3) := by decide +kernel
theorem dX7_mixSegments_13 : decode cX7_mixSegments 13 = .ok (.aload_n 0, 1) := by decide +kernel
theorem dX7_mixSegments_14 : decode cX7_mixSegments 14 = .ok (.aload_n 0, 1) := by decide +kernel
theorem dX7_mixSegments_15 : decode cX7_mixSegments 15 = .ok (.iload_n 1, 1) := by decide +kernel
theorem dX7_mixSegments_16 : decode cX7_mixSegments 16 = .ok (.bipush 7, 2) := by decide +kernel
theorem dX7_mixSegments_18 : decode cX7_mixSegments 18 = .ok (.idiv, 1) := by decide +kernel
theorem dX7_mixSegments_19 : decode cX7_mixSegments 19 = .ok (.iload_n 1, 1) := by decide +kernel
theorem dX7_mixSegments_20 : decode cX7_mixSegments 20 = .ok (.bipush 7, 2) := by decide +kernel
theorem dX7_mixSegments_22 : decode cX7_mixSegments 22 = .ok (.irem, 1) := by decide +kernel
theorem dX7_mixSegments_23 : decode cX7_mixSegments 23 = .ok (.invokevirtual 269, 3) := by decide +kernel
theorem dX7_mixSegments_26 : decode cX7_mixSegments 26 = .ok (.i2l, 1) := by decide +kernel
theorem dX7_mixSegments_27 : decode cX7_mixSegments 27 = .ok (.invokevirtual 308, 3) := by decide +kernel
theorem dX7_mixSegments_30 : decode cX7_mixSegments 30 = .ok (.iinc 1 1, 3) := by decide +kernel
theorem dX7_mixSegments_33 : decode cX7_mixSegments 33 = .ok (.goto (-31), 3) := by decide +kernel
theorem dX7_mixSegments_36 : decode cX7_mixSegments 36 = .ok (.iconst 0, 1) := by decide +kernel
theorem dX7_mixSegments_37 : decode cX7_mixSegments 37 = .ok (.istore_n 1, 1) := by decide +kernel
theorem dX7_mixSegments_38 : decode cX7_mixSegments 38 = .ok (.iload_n 1, 1) := by decide +kernel
theorem dX7_mixSegments_39 : decode cX7_mixSegments 39 = .ok (.aload_n 0, 1) := by decide +kernel
theorem dX7_mixSegments_40 : decode cX7_mixSegments 40 = .ok (.getfield 156, 3) := by decide +kernel
theorem dX7_mixSegments_43 : decode cX7_mixSegments 43 = .ok (.if_icmp .ge 20, 3) := by decide +kernel
theorem dX7_mixSegments_46 : decode cX7_mixSegments 46 = .ok (.aload_n 0, 1) := by decide +kernel
theorem dX7_mixSegments_47 : decode cX7_mixSegments 47 = .ok (.aload_n 0, 1) := by decide +kernel
theorem dX7_mixSegments_48 : decode cX7_mixSegments 48 = .ok (.getfield 31, 3) := by decide +kernel
theorem dX7_mixSegments_51 : decode cX7_mixSegments 51 = .ok (.iload_n 1, 1) := by decide +kernel
theorem dX7_mixSegments_52 : decode cX7_mixSegments 52 = .ok (.iaload, 1) := by decide +kernel
theorem dX7_mixSegments_53 : decode cX7_mixSegments 53 = .ok (.i2l, 1) := by decide +kernel
theorem dX7_mixSegments_54 : decode cX7_mixSegments 54 = .ok (.invokevirtual 308, 3) := by decide +kernel
theorem dX7_mixSegments_57 : decode cX7_mixSegments 57 = .ok (.iinc 1 1, 3) := by decide +kernel
theorem dX7_mixSegments_60 : decode cX7_mixSegments 60 = .ok (.goto (-22), 3) := by decide +kernel
theorem dX7_mixSegments_63 : decode cX7_mixSegments 63 = .ok (.aload_n 0, 1) := by decide +kernel
theorem dX7_mixSegments_64 : decode cX7_mixSegments 64 = .ok (.iconst (-1), 1) := by decide +kernel
theorem dX7_mixSegments_65 : decode cX7_mixSegments 65 = .ok (.invokevirtual 230, 3) := by decide +kernel
theorem dX7_mixSegments_68 : decode cX7_mixSegments 68 = .ok (.istore_n 1, 1) := by decide +kernel
theorem dX7_mixSegments_69 : decode cX7_mixSegments 69 = .ok (.iconst 0, 1) := by decide +kernel
theorem dX7_mixSegments_70 : decode cX7_mixSegments 70 = .ok (.istore_n 2, 1) := by decide +kernel
theorem dX7_mixSegments_71 : decode cX7_mixSegments 71 = .ok (.iload_n 2, 1) := by decide +kernel
theorem dX7_mixSegments_72 : decode cX7_mixSegments 72 = .ok (.iload_n 1, 1) := by decide +kernel
theorem dX7_mixSegments_73 : decode cX7_mixSegments 73 = .ok (.if_icmp .ge 19, 3) := by decide +kernel
theorem dX7_mixSegments_76 : decode cX7_mixSegments 76 = .ok (.aload_n 0, 1) := by decide +kernel
theorem dX7_mixSegments_77 : decode cX7_mixSegments 77 = .ok (.aload_n 0, 1) := by decide +kernel
theorem dX7_mixSegments_78 : decode cX7_mixSegments 78 = .ok (.iload_n 2, 1) := by decide +kernel
theorem dX7_mixSegments_79 : decode cX7_mixSegments 79 = .ok (.invokevirtual 230, 3) := by decide +kernel
theorem dX7_mixSegments_82 : decode cX7_mixSegments 82 = .ok (.i2l, 1) := by decide +kernel
theorem dX7_mixSegments_83 : decode cX7_mixSegments 83 = .ok (.invokevirtual 308, 3) := by decide +kernel
theorem dX7_mixSegments_86 : decode cX7_mixSegments 86 = .ok (.iinc 2 1, 3) := by decide +kernel
theorem dX7_mixSegments_89 : decode cX7_mixSegments 89 = .ok (.goto (-18), 3) := by decide +kernel
theorem dX7_mixSegments_92 : decode cX7_mixSegments 92 = .ok (.return_, 1) := by decide +kernel
theorem dX7_mixChannel_0 : decode cX7_mixChannel 0 = .ok (.iconst 0, 1) := by decide +kernel
theorem dX7_mixChannel_1 : decode cX7_mixChannel 1 = .ok (.istore_n 1, 1) := by decide +kernel
theorem dX7_mixChannel_2 : decode cX7_mixChannel 2 = .ok (.iload_n 1, 1) := by decide +kernel
theorem dX7_mixChannel_3 : decode cX7_mixChannel 3 = .ok (.bipush 10, 2) := by decide +kernel
theorem dX7_mixChannel_5 : decode cX7_mixChannel 5 = .ok (.if_icmp .ge 19, 3) := by decide +kernel
theorem dX7_mixChannel_8 : decode cX7_mixChannel 8 = .ok (.aload_n 0, 1) := by decide +kernel
theorem dX7_mixChannel_9 : decode cX7_mixChannel 9 = .ok (.aload_n 0, 1) := by decide +kernel
theorem dX7_mixChannel_10 : decode cX7_mixChannel 10 = .ok (.iload_n 1, 1) := by decide +kernel
theorem dX7_mixChannel_11 : decode cX7_mixChannel 11 = .ok (.invokevirtual 239, 3) := by decide +kernel
theorem dX7_mixChannel_14 : decode cX7_mixChannel 14 = .ok (.i2l, 1) := by decide +kernel
theorem dX7_mixChannel_15 : decode cX7_mixChannel 15 = .ok (.invokevirtual 308, 3) := by decide +kernel
theorem dX7_mixChannel_18 : decode cX7_mixChannel 18 = .ok (.iinc 1 1, 3) := by decide +kernel
theorem dX7_mixChannel_21 : decode cX7_mixChannel 21 = .ok (.goto (-19), 3) := by decide +kernel
theorem dX7_mixChannel_24 : decode cX7_mixChannel 24 = .ok (.iconst 0, 1) := by decide +kernel
theorem dX7_mixChannel_25 : decode cX7_mixChannel 25 = .ok (.istore_n 1, 1) := by decide +kernel
theorem dX7_mixChannel_26 : decode cX7_mixChannel 26 = .ok (.iload_n 1, 1) := by decide +kernel
theorem dX7_mixChannel_27 : decode cX7_mixChannel 27 = .ok (.iconst 2, 1) := by decide +kernel
theorem dX7_mixChannel_28 : decode cX7_mixChannel 28 = .ok (.aload_n 0, 1) := by decide +kernel
theorem dX7_mixChannel_29 : decode cX7_mixChannel 29 = .ok (.getfield 87, 3) := by decide +kernel
theorem dX7_mixChannel_32 : decode cX7_mixChannel 32 = .ok (.imul, 1) := by decide +kernel
theorem dX7_mixChannel_33 : decode cX7_mixChannel 33 = .ok (.if_icmp .ge 20, 3) := by decide +kernel
theorem dX7_mixChannel_36 : decode cX7_mixChannel 36 = .ok (.aload_n 0, 1) := by decide +kernel
theorem dX7_mixChannel_37 : decode cX7_mixChannel 37 = .ok (.aload_n 0, 1) := by decide +kernel
theorem dX7_mixChannel_38 : decode cX7_mixChannel 38 = .ok (.getfield 7, 3) := by decide +kernel
theorem dX7_mixChannel_41 : decode cX7_mixChannel 41 = .ok (.iload_n 1, 1) := by decide +kernel
theorem dX7_mixChannel_42 : decode cX7_mixChannel 42 = .ok (.iaload, 1) := by decide +kernel
theorem dX7_mixChannel_43 : decode cX7_mixChannel 43 = .ok (.i2l, 1) := by decide +kernel
theorem dX7_mixChannel_44 : decode cX7_mixChannel 44 = .ok (.invokevirtual 308, 3) := by decide +kernel
theorem dX7_mixChannel_47 : decode cX7_mixChannel 47 = .ok (.iinc 1 1, 3) := by decide +kernel
theorem dX7_mixChannel_50 : decode cX7_mixChannel 50 = .ok (.goto (-24), 3) := by decide +kernel
theorem dX7_mixChannel_53 : decode cX7_mixChannel 53 = .ok (.iconst 0, 1) := by decide +kernel
theorem dX7_mixChannel_54 : decode cX7_mixChannel 54 = .ok (.istore_n 1, 1) := by decide +kernel
theorem dX7_mixChannel_55 : decode cX7_mixChannel 55 = .ok (.iload_n 1, 1) := by decide +kernel
theorem dX7_mixChannel_56 : decode cX7_mixChannel 56 = .ok (.bipush 6, 2) := by decide +kernel
theorem dX7_mixChannel_58 : decode cX7_mixChannel 58 = .ok (.if_icmp .ge 22, 3) := by decide +kernel
theorem dX7_mixChannel_61 : decode cX7_mixChannel 61 = .ok (.aload_n 0, 1) := by decide +kernel
theorem dX7_mixChannel_62 : decode cX7_mixChannel 62 = .ok (.aload_n 0, 1) := by decide +kernel
theorem dX7_mixChannel_63 : decode cX7_mixChannel 63 = .ok (.getfield 93, 3) := by decide +kernel
theorem dX7_mixChannel_66 : decode cX7_mixChannel 66 = .ok (.iload_n 1, 1) := by decide +kernel
theorem dX7_mixChannel_67 : decode cX7_mixChannel 67 = .ok (.ishr, 1) := by decide +kernel
theorem dX7_mixChannel_68 : decode cX7_mixChannel 68 = .ok (.iconst 1, 1) := by decide +kernel
theorem dX7_mixChannel_69 : decode cX7_mixChannel 69 = .ok (.iand, 1) := by decide +kernel
theorem dX7_mixChannel_70 : decode cX7_mixChannel 70 = .ok (.i2l, 1) := by decide +kernel
theorem dX7_mixChannel_71 : decode cX7_mixChannel 71 = .ok (.invokevirtual 308, 3) := by decide +kernel
theorem dX7_mixChannel_74 : decode cX7_mixChannel 74 = .ok (.iinc 1 1, 3) := by decide +kernel
theorem dX7_mixChannel_77 : decode cX7_mixChannel 77 = .ok (.goto (-22), 3) := by decide +kernel
theorem dX7_mixChannel_80 : decode cX7_mixChannel 80 = .ok (.aload_n 0, 1) := by decide +kernel
theorem dX7_mixChannel_81 : decode cX7_mixChannel 81 = .ok (.invokevirtual 312, 3) := by decide +kernel
theorem dX7_mixChannel_84 : decode cX7_mixChannel 84 = .ok (.aload_n 0, 1) := by decide +kernel
theorem dX7_mixChannel_85 : decode cX7_mixChannel 85 = .ok (.invokevirtual 200, 3) := by decide +kernel
theorem dX7_mixChannel_88 : decode cX7_mixChannel 88 = .ok (.istore_n 1, 1) := by decide +kernel
theorem dX7_mixChannel_89 : decode cX7_mixChannel 89 = .ok (.iconst 0, 1) := by decide +kernel
theorem dX7_mixChannel_90 : decode cX7_mixChannel 90 = .ok (.istore_n 2, 1) := by decide +kernel
theorem dX7_mixChannel_91 : decode cX7_mixChannel 91 = .ok (.iload_n 2, 1) := by decide +kernel
theorem dX7_mixChannel_92 : decode cX7_mixChannel 92 = .ok (.iload_n 1, 1) := by decide +kernel
theorem dX7_mixChannel_93 : decode cX7_mixChannel 93 = .ok (.if_icmp .ge 19, 3) := by decide +kernel
theorem dX7_mixChannel_96 : decode cX7_mixChannel 96 = .ok (.aload_n 0, 1) := by decide +kernel
theorem dX7_mixChannel_97 : decode cX7_mixChannel 97 = .ok (.aload_n 0, 1) := by decide +kernel
theorem dX7_mixChannel_98 : decode cX7_mixChannel 98 = .ok (.iload_n 2, 1) := by decide +kernel
theorem dX7_mixChannel_99 : decode cX7_mixChannel 99 = .ok (.invokevirtual 203, 3) := by decide +kernel
theorem dX7_mixChannel_102 : decode cX7_mixChannel 102 = .ok (.i2l, 1) := by decide +kernel
theorem dX7_mixChannel_103 : decode cX7_mixChannel 103 = .ok (.invokevirtual 308, 3) := by decide +kernel
theorem dX7_mixChannel_106 : decode cX7_mixChannel 106 = .ok (.iinc 2 1, 3) := by decide +kernel
theorem dX7_mixChannel_109 : decode cX7_mixChannel 109 = .ok (.goto (-18), 3) := by decide +kernel
theorem dX7_mixChannel_112 : decode cX7_mixChannel 112 = .ok (.aload_n 0, 1) := by decide +kernel
theorem dX7_mixChannel_113 : decode cX7_mixChannel 113 = .ok (.invokevirtual 185, 3) := by decide +kernel
theorem dX7_mixChannel_116 : decode cX7_mixChannel 116 = .ok (.aload_n 0, 1) := by decide +kernel
theorem dX7_mixChannel_117 : decode cX7_mixChannel 117 = .ok (.getfield 87, 3) := by decide +kernel
theorem dX7_mixChannel_120 : decode cX7_mixChannel 120 = .ok (.imul, 1) := by decide +kernel
theorem dX7_mixChannel_121 : decode cX7_mixChannel 121 = .ok (.istore_n 2, 1) := by decide +kernel
theorem dX7_mixChannel_122 : decode cX7_mixChannel 122 = .ok (.iconst 0, 1) := by decide +kernel
theorem dX7_mixChannel_123 : decode cX7_mixChannel 123 = .ok (.istore_n 3, 1) := by decide +kernel
theorem dX7_mixChannel_124 : decode cX7_mixChannel 124 = .ok (.iload_n 3, 1) := by decide +kernel
theorem dX7_mixChannel_125 : decode cX7_mixChannel 125 = .ok (.iload_n 2, 1) := by decide +kernel
theorem dX7_mixChannel_126 : decode cX7_mixChannel 126 = .ok (.if_icmp .ge 33, 3) := by decide +kernel
theorem dX7_mixChannel_129 : decode cX7_mixChannel 129 = .ok (.aload_n 0, 1) := by decide +kernel
theorem dX7_mixChannel_130 : decode cX7_mixChannel 130 = .ok (.aload_n 0, 1) := by decide +kernel
theorem dX7_mixChannel_131 : decode cX7_mixChannel 131 = .ok (.iload_n 3, 1) := by decide +kernel
theorem dX7_mixChannel_132 : decode cX7_mixChannel 132 = .ok (.aload_n 0, 1) := by decide +kernel
theorem dX7_mixChannel_133 : decode cX7_mixChannel 133 = .ok (.getfield 87, 3) := by decide +kernel
theorem dX7_mixChannel_136 : decode cX7_mixChannel 136 = .ok (.idiv, 1) := by decide +kernel
theorem dX7_mixChannel_137 : decode cX7_mixChannel 137 = .ok (.iload_n 3, 1) := by decide +kernel
theorem dX7_mixChannel_138 : decode cX7_mixChannel 138 = .ok (.aload_n 0, 1) := by decide +kernel
theorem dX7_mixChannel_139 : decode cX7_mixChannel 139 = .ok (.getfield 87, 3) := by decide +kernel
theorem dX7_mixChannel_142 : decode cX7_mixChannel 142 = .ok (.irem, 1) := by decide +kernel
theorem dX7_mixChannel_143 : decode cX7_mixChannel 143 = .ok (.invokevirtual 194, 3) := by decide +kernel
theorem dX7_mixChannel_146 : decode cX7_mixChannel 146 = .ok (.invokestatic 159, 3) := by decide +kernel
theorem dX7_mixChannel_149 : decode cX7_mixChannel 149 = .ok (.i2l, 1) := by decide +kernel
theorem dX7_mixChannel_150 : decode cX7_mixChannel 150 = .ok (.invokevirtual 308, 3) := by decide +kernel
theorem dX7_mixChannel_153 : decode cX7_mixChannel 153 = .ok (.iinc 3 1, 3) := by decide +kernel
theorem dX7_mixChannel_156 : decode cX7_mixChannel 156 = .ok (.goto (-32), 3) := by decide +kernel
theorem dX7_mixChannel_159 : decode cX7_mixChannel 159 = .ok (.return_, 1) := by decide +kernel
theorem dX7_digest_0 : decode cX7_digest 0 = .ok (.aload_n 0, 1) := by decide +kernel
theorem dX7_digest_1 : decode cX7_digest 1 = .ok (.ldc2_w 315, 3) := by decide +kernel
theorem dX7_digest_4 : decode cX7_digest 4 = .ok (.putfield 304, 3) := by decide +kernel
theorem dX7_digest_7 : decode cX7_digest 7 = .ok (.aload_n 0, 1) := by decide +kernel
theorem dX7_digest_8 : decode cX7_digest 8 = .ok (.invokevirtual 197, 3) := by decide +kernel
theorem dX7_digest_11 : decode cX7_digest 11 = .ok (.ifCond .eq 7, 3) := by decide +kernel
theorem dX7_digest_14 : decode cX7_digest 14 = .ok (.aload_n 0, 1) := by decide +kernel
theorem dX7_digest_15 : decode cX7_digest 15 = .ok (.invokevirtual 317, 3) := by decide +kernel
theorem dX7_digest_18 : decode cX7_digest 18 = .ok (.iconst 0, 1) := by decide +kernel
theorem dX7_digest_19 : decode cX7_digest 19 = .ok (.istore_n 1, 1) := by decide +kernel
theorem dX7_digest_20 : decode cX7_digest 20 = .ok (.iload_n 1, 1) := by decide +kernel
theorem dX7_digest_21 : decode cX7_digest 21 = .ok (.aload_n 0, 1) := by decide +kernel
theorem dX7_digest_22 : decode cX7_digest 22 = .ok (.getfield 51, 3) := by decide +kernel
theorem dX7_digest_25 : decode cX7_digest 25 = .ok (.if_icmp .ge 20, 3) := by decide +kernel
theorem dX7_digest_28 : decode cX7_digest 28 = .ok (.aload_n 0, 1) := by decide +kernel
theorem dX7_digest_29 : decode cX7_digest 29 = .ok (.aload_n 0, 1) := by decide +kernel
theorem dX7_digest_30 : decode cX7_digest 30 = .ok (.getfield 34, 3) := by decide +kernel
theorem dX7_digest_33 : decode cX7_digest 33 = .ok (.iload_n 1, 1) := by decide +kernel
theorem dX7_digest_34 : decode cX7_digest 34 = .ok (.iaload, 1) := by decide +kernel
theorem dX7_digest_35 : decode cX7_digest 35 = .ok (.i2l, 1) := by decide +kernel
theorem dX7_digest_36 : decode cX7_digest 36 = .ok (.invokevirtual 308, 3) := by decide +kernel
theorem dX7_digest_39 : decode cX7_digest 39 = .ok (.iinc 1 1, 3) := by decide +kernel
theorem dX7_digest_42 : decode cX7_digest 42 = .ok (.goto (-22), 3) := by decide +kernel
theorem dX7_digest_45 : decode cX7_digest 45 = .ok (.iconst 0, 1) := by decide +kernel
theorem dX7_digest_46 : decode cX7_digest 46 = .ok (.istore_n 1, 1) := by decide +kernel
theorem dX7_digest_47 : decode cX7_digest 47 = .ok (.iload_n 1, 1) := by decide +kernel
theorem dX7_digest_48 : decode cX7_digest 48 = .ok (.bipush 9, 2) := by decide +kernel
theorem dX7_digest_50 : decode cX7_digest 50 = .ok (.if_icmp .ge 19, 3) := by decide +kernel
theorem dX7_digest_53 : decode cX7_digest 53 = .ok (.aload_n 0, 1) := by decide +kernel
theorem dX7_digest_54 : decode cX7_digest 54 = .ok (.aload_n 0, 1) := by decide +kernel
theorem dX7_digest_55 : decode cX7_digest 55 = .ok (.iload_n 1, 1) := by decide +kernel
theorem dX7_digest_56 : decode cX7_digest 56 = .ok (.invokevirtual 299, 3) := by decide +kernel
theorem dX7_digest_59 : decode cX7_digest 59 = .ok (.i2l, 1) := by decide +kernel
theorem dX7_digest_60 : decode cX7_digest 60 = .ok (.invokevirtual 308, 3) := by decide +kernel
theorem dX7_digest_63 : decode cX7_digest 63 = .ok (.iinc 1 1, 3) := by decide +kernel
theorem dX7_digest_66 : decode cX7_digest 66 = .ok (.goto (-19), 3) := by decide +kernel
theorem dX7_digest_69 : decode cX7_digest 69 = .ok (.aload_n 0, 1) := by decide +kernel
theorem dX7_digest_70 : decode cX7_digest 70 = .ok (.getfield 304, 3) := by decide +kernel
theorem dX7_digest_73 : decode cX7_digest 73 = .ok (.lreturn, 1) := by decide +kernel
end
section
theorem dX0_netOf_0 : decode cX0_netOf 0 = .ok (.aload_n 0, 1) := by decide +kernel
theorem dX0_netOf_1 : decode cX0_netOf 1 = .ok (.getfield 9, 3) := by decide +kernel
theorem dX0_netOf_4 : decode cX0_netOf 4 = .ok (.iconst 2, 1) := by decide +kernel
theorem dX0_netOf_5 : decode cX0_netOf 5 = .ok (.iload_n 1, 1) := by decide +kernel
theorem dX0_netOf_6 : decode cX0_netOf 6 = .ok (.imul, 1) := by decide +kernel
theorem dX0_netOf_7 : decode cX0_netOf 7 = .ok (.iload_n 2, 1) := by decide +kernel
theorem dX0_netOf_8 : decode cX0_netOf 8 = .ok (.iadd, 1) := by decide +kernel
theorem dX0_netOf_9 : decode cX0_netOf 9 = .ok (.iaload, 1) := by decide +kernel
theorem dX0_netOf_10 : decode cX0_netOf 10 = .ok (.ireturn, 1) := by decide +kernel
theorem dX0_change_0 : decode cX0_change 0 = .ok (.aload_n 0, 1) := by decide +kernel
theorem dX0_change_1 : decode cX0_change 1 = .ok (.getfield 9, 3) := by decide +kernel
theorem dX0_change_4 : decode cX0_change 4 = .ok (.iconst 2, 1) := by decide +kernel
theorem dX0_change_5 : decode cX0_change 5 = .ok (.iload_n 1, 1) := by decide +kernel
theorem dX0_change_6 : decode cX0_change 6 = .ok (.imul, 1) := by decide +kernel
theorem dX0_change_7 : decode cX0_change 7 = .ok (.iload_n 2, 1) := by decide +kernel
theorem dX0_change_8 : decode cX0_change 8 = .ok (.iadd, 1) := by decide +kernel
theorem dX0_change_9 : decode cX0_change 9 = .ok (.iload_n 3, 1) := by decide +kernel
theorem dX0_change_10 : decode cX0_change 10 = .ok (.iastore, 1) := by decide +kernel
theorem dX0_change_11 : decode cX0_change 11 = .ok (.return_, 1) := by decide +kernel
theorem dX0_columnsWith_0 : decode cX0_columnsWith 0 = .ok (.iconst 0, 1) := by decide +kernel
theorem dX0_columnsWith_1 : decode cX0_columnsWith 1 = .ok (.istore_n 2, 1) := by decide +kernel
theorem dX0_columnsWith_2 : decode cX0_columnsWith 2 = .ok (.iconst 0, 1) := by decide +kernel
theorem dX0_columnsWith_3 : decode cX0_columnsWith 3 = .ok (.istore_n 3, 1) := by decide +kernel
theorem dX0_columnsWith_4 : decode cX0_columnsWith 4 = .ok (.iload_n 3, 1) := by decide +kernel
theorem dX0_columnsWith_5 : decode cX0_columnsWith 5 = .ok (.aload_n 0, 1) := by decide +kernel
theorem dX0_columnsWith_6 : decode cX0_columnsWith 6 = .ok (.getfield 15, 3) := by decide +kernel
theorem dX0_columnsWith_9 : decode cX0_columnsWith 9 = .ok (.if_icmp .ge 35, 3) := by decide +kernel
theorem dX0_columnsWith_12 : decode cX0_columnsWith 12 = .ok (.aload_n 0, 1) := by decide +kernel
theorem dX0_columnsWith_13 : decode cX0_columnsWith 13 = .ok (.iload_n 3, 1) := by decide +kernel
theorem dX0_columnsWith_14 : decode cX0_columnsWith 14 = .ok (.iconst 0, 1) := by decide +kernel
theorem dX0_columnsWith_15 : decode cX0_columnsWith 15 = .ok (.invokevirtual 19, 3) := by decide +kernel
theorem dX0_columnsWith_18 : decode cX0_columnsWith 18 = .ok (.iload_n 1, 1) := by decide +kernel
theorem dX0_columnsWith_19 : decode cX0_columnsWith 19 = .ok (.if_icmp .eq 13, 3) := by decide +kernel
theorem dX0_columnsWith_22 : decode cX0_columnsWith 22 = .ok (.aload_n 0, 1) := by decide +kernel
theorem dX0_columnsWith_23 : decode cX0_columnsWith 23 = .ok (.iload_n 3, 1) := by decide +kernel
theorem dX0_columnsWith_24 : decode cX0_columnsWith 24 = .ok (.iconst 1, 1) := by decide +kernel
theorem dX0_columnsWith_25 : decode cX0_columnsWith 25 = .ok (.invokevirtual 19, 3) := by decide +kernel
theorem dX0_columnsWith_28 : decode cX0_columnsWith 28 = .ok (.iload_n 1, 1) := by decide +kernel
theorem dX0_columnsWith_29 : decode cX0_columnsWith 29 = .ok (.if_icmp .ne 9, 3) := by decide +kernel
theorem dX0_columnsWith_32 : decode cX0_columnsWith 32 = .ok (.iload_n 2, 1) := by decide +kernel
theorem dX0_columnsWith_33 : decode cX0_columnsWith 33 = .ok (.iconst 1, 1) := by decide +kernel
theorem dX0_columnsWith_34 : decode cX0_columnsWith 34 = .ok (.iload_n 3, 1) := by decide +kernel
theorem dX0_columnsWith_35 : decode cX0_columnsWith 35 = .ok (.ishl, 1) := by decide +kernel
theorem dX0_columnsWith_36 : decode cX0_columnsWith 36 = .ok (.ior, 1) := by decide +kernel
theorem dX0_columnsWith_37 : decode cX0_columnsWith 37 = .ok (.istore_n 2, 1) := by decide +kernel
theorem dX0_columnsWith_38 : decode cX0_columnsWith 38 = .ok (.iinc 3 1, 3) := by decide +kernel
theorem dX0_columnsWith_41 : decode cX0_columnsWith 41 = .ok (.goto (-37), 3) := by decide +kernel
theorem dX0_columnsWith_44 : decode cX0_columnsWith 44 = .ok (.iload_n 2, 1) := by decide +kernel
theorem dX0_columnsWith_45 : decode cX0_columnsWith 45 = .ok (.ireturn, 1) := by decide +kernel
theorem dX0_pinsOf_0 : decode cX0_pinsOf 0 = .ok (.iconst 0, 1) := by decide +kernel
theorem dX0_pinsOf_1 : decode cX0_pinsOf 1 = .ok (.istore_n 2, 1) := by decide +kernel
theorem dX0_pinsOf_2 : decode cX0_pinsOf 2 = .ok (.iconst 0, 1) := by decide +kernel
theorem dX0_pinsOf_3 : decode cX0_pinsOf 3 = .ok (.istore_n 3, 1) := by decide +kernel
theorem dX0_pinsOf_4 : decode cX0_pinsOf 4 = .ok (.iload_n 3, 1) := by decide +kernel
theorem dX0_pinsOf_5 : decode cX0_pinsOf 5 = .ok (.iconst 2, 1) := by decide +kernel
theorem dX0_pinsOf_6 : decode cX0_pinsOf 6 = .ok (.aload_n 0, 1) := by decide +kernel
theorem dX0_pinsOf_7 : decode cX0_pinsOf 7 = .ok (.getfield 15, 3) := by decide +kernel
theorem dX0_pinsOf_10 : decode cX0_pinsOf 10 = .ok (.imul, 1) := by decide +kernel
theorem dX0_pinsOf_11 : decode cX0_pinsOf 11 = .ok (.if_icmp .ge 22, 3) := by decide +kernel
theorem dX0_pinsOf_14 : decode cX0_pinsOf 14 = .ok (.aload_n 0, 1) := by decide +kernel
theorem dX0_pinsOf_15 : decode cX0_pinsOf 15 = .ok (.getfield 9, 3) := by decide +kernel
theorem dX0_pinsOf_18 : decode cX0_pinsOf 18 = .ok (.iload_n 3, 1) := by decide +kernel
theorem dX0_pinsOf_19 : decode cX0_pinsOf 19 = .ok (.iaload, 1) := by decide +kernel
theorem dX0_pinsOf_20 : decode cX0_pinsOf 20 = .ok (.iload_n 1, 1) := by decide +kernel
theorem dX0_pinsOf_21 : decode cX0_pinsOf 21 = .ok (.if_icmp .ne 6, 3) := by decide +kernel
theorem dX0_pinsOf_24 : decode cX0_pinsOf 24 = .ok (.iinc 2 1, 3) := by decide +kernel
theorem dX0_pinsOf_27 : decode cX0_pinsOf 27 = .ok (.iinc 3 1, 3) := by decide +kernel
theorem dX0_pinsOf_30 : decode cX0_pinsOf 30 = .ok (.goto (-26), 3) := by decide +kernel
theorem dX0_pinsOf_33 : decode cX0_pinsOf 33 = .ok (.iload_n 2, 1) := by decide +kernel
theorem dX0_pinsOf_34 : decode cX0_pinsOf 34 = .ok (.ireturn, 1) := by decide +kernel
theorem dX0_pinsOfNets_0 : decode cX0_pinsOfNets 0 = .ok (.iconst 2, 1) := by decide +kernel
theorem dX0_pinsOfNets_1 : decode cX0_pinsOfNets 1 = .ok (.aload_n 0, 1) := by decide +kernel
theorem dX0_pinsOfNets_2 : decode cX0_pinsOfNets 2 = .ok (.getfield 15, 3) := by decide +kernel
theorem dX0_pinsOfNets_5 : decode cX0_pinsOfNets 5 = .ok (.imul, 1) := by decide +kernel
theorem dX0_pinsOfNets_6 : decode cX0_pinsOfNets 6 = .ok (.aload_n 0, 1) := by decide +kernel
theorem dX0_pinsOfNets_7 : decode cX0_pinsOfNets 7 = .ok (.iconst (-1), 1) := by decide +kernel
theorem dX0_pinsOfNets_8 : decode cX0_pinsOfNets 8 = .ok (.invokevirtual 23, 3) := by decide +kernel
theorem dX0_pinsOfNets_11 : decode cX0_pinsOfNets 11 = .ok (.isub, 1) := by decide +kernel
theorem dX0_pinsOfNets_12 : decode cX0_pinsOfNets 12 = .ok (.ireturn, 1) := by decide +kernel
theorem dX0_nets_0 : decode cX0_nets 0 = .ok (.iconst 0, 1) := by decide +kernel
theorem dX0_nets_1 : decode cX0_nets 1 = .ok (.istore_n 1, 1) := by decide +kernel
theorem dX0_nets_2 : decode cX0_nets 2 = .ok (.iconst 0, 1) := by decide +kernel
theorem dX0_nets_3 : decode cX0_nets 3 = .ok (.istore_n 2, 1) := by decide +kernel
theorem dX0_nets_4 : decode cX0_nets 4 = .ok (.iload_n 2, 1) := by decide +kernel
theorem dX0_nets_5 : decode cX0_nets 5 = .ok (.bipush 6, 2) := by decide +kernel
theorem dX0_nets_7 : decode cX0_nets 7 = .ok (.if_icmp .ge 20, 3) := by decide +kernel
theorem dX0_nets_10 : decode cX0_nets 10 = .ok (.aload_n 0, 1) := by decide +kernel
theorem dX0_nets_11 : decode cX0_nets 11 = .ok (.iload_n 2, 1) := by decide +kernel
theorem dX0_nets_12 : decode cX0_nets 12 = .ok (.invokevirtual 27, 3) := by decide +kernel
theorem dX0_nets_15 : decode cX0_nets 15 = .ok (.ifCond .eq 6, 3) := by decide +kernel
theorem dX0_nets_18 : decode cX0_nets 18 = .ok (.iinc 1 1, 3) := by decide +kernel
theorem dX0_nets_21 : decode cX0_nets 21 = .ok (.iinc 2 1, 3) := by decide +kernel
theorem dX0_nets_24 : decode cX0_nets 24 = .ok (.goto (-20), 3) := by decide +kernel
theorem dX0_nets_27 : decode cX0_nets 27 = .ok (.iload_n 1, 1) := by decide +kernel
theorem dX0_nets_28 : decode cX0_nets 28 = .ok (.ireturn, 1) := by decide +kernel
theorem dJ6_bitCount_0f7a4_0 : decode cJ6_bitCount_0f7a4 0 = .ok (.iload_n 0, 1) := by decide +kernel
theorem dJ6_bitCount_0f7a4_1 : decode cJ6_bitCount_0f7a4 1 = .ok (.iload_n 0, 1) := by decide +kernel
theorem dJ6_bitCount_0f7a4_2 : decode cJ6_bitCount_0f7a4 2 = .ok (.iconst 1, 1) := by decide +kernel
theorem dJ6_bitCount_0f7a4_3 : decode cJ6_bitCount_0f7a4 3 = .ok (.iushr, 1) := by decide +kernel
theorem dJ6_bitCount_0f7a4_4 : decode cJ6_bitCount_0f7a4 4 = .ok (.ldc_w 265, 3) := by decide +kernel
theorem dJ6_bitCount_0f7a4_7 : decode cJ6_bitCount_0f7a4 7 = .ok (.iand, 1) := by decide +kernel
theorem dJ6_bitCount_0f7a4_8 : decode cJ6_bitCount_0f7a4 8 = .ok (.isub, 1) := by decide +kernel
theorem dJ6_bitCount_0f7a4_9 : decode cJ6_bitCount_0f7a4 9 = .ok (.istore_n 0, 1) := by decide +kernel
theorem dJ6_bitCount_0f7a4_10 : decode cJ6_bitCount_0f7a4 10 = .ok (.iload_n 0, 1) := by decide +kernel
theorem dJ6_bitCount_0f7a4_11 : decode cJ6_bitCount_0f7a4 11 = .ok (.ldc_w 266, 3) := by decide +kernel
theorem dJ6_bitCount_0f7a4_14 : decode cJ6_bitCount_0f7a4 14 = .ok (.iand, 1) := by decide +kernel
theorem dJ6_bitCount_0f7a4_15 : decode cJ6_bitCount_0f7a4 15 = .ok (.iload_n 0, 1) := by decide +kernel
theorem dJ6_bitCount_0f7a4_16 : decode cJ6_bitCount_0f7a4 16 = .ok (.iconst 2, 1) := by decide +kernel
theorem dJ6_bitCount_0f7a4_17 : decode cJ6_bitCount_0f7a4 17 = .ok (.iushr, 1) := by decide +kernel
theorem dJ6_bitCount_0f7a4_18 : decode cJ6_bitCount_0f7a4 18 = .ok (.ldc_w 266, 3) := by decide +kernel
theorem dJ6_bitCount_0f7a4_21 : decode cJ6_bitCount_0f7a4 21 = .ok (.iand, 1) := by decide +kernel
theorem dJ6_bitCount_0f7a4_22 : decode cJ6_bitCount_0f7a4 22 = .ok (.iadd, 1) := by decide +kernel
theorem dJ6_bitCount_0f7a4_23 : decode cJ6_bitCount_0f7a4 23 = .ok (.istore_n 0, 1) := by decide +kernel
theorem dJ6_bitCount_0f7a4_24 : decode cJ6_bitCount_0f7a4 24 = .ok (.iload_n 0, 1) := by decide +kernel
theorem dJ6_bitCount_0f7a4_25 : decode cJ6_bitCount_0f7a4 25 = .ok (.iload_n 0, 1) := by decide +kernel
theorem dJ6_bitCount_0f7a4_26 : decode cJ6_bitCount_0f7a4 26 = .ok (.iconst 4, 1) := by decide +kernel
theorem dJ6_bitCount_0f7a4_27 : decode cJ6_bitCount_0f7a4 27 = .ok (.iushr, 1) := by decide +kernel
theorem dJ6_bitCount_0f7a4_28 : decode cJ6_bitCount_0f7a4 28 = .ok (.iadd, 1) := by decide +kernel
theorem dJ6_bitCount_0f7a4_29 : decode cJ6_bitCount_0f7a4 29 = .ok (.ldc_w 267, 3) := by decide +kernel
theorem dJ6_bitCount_0f7a4_32 : decode cJ6_bitCount_0f7a4 32 = .ok (.iand, 1) := by decide +kernel
theorem dJ6_bitCount_0f7a4_33 : decode cJ6_bitCount_0f7a4 33 = .ok (.istore_n 0, 1) := by decide +kernel
theorem dJ6_bitCount_0f7a4_34 : decode cJ6_bitCount_0f7a4 34 = .ok (.iload_n 0, 1) := by decide +kernel
theorem dJ6_bitCount_0f7a4_35 : decode cJ6_bitCount_0f7a4 35 = .ok (.iload_n 0, 1) := by decide +kernel
theorem dJ6_bitCount_0f7a4_36 : decode cJ6_bitCount_0f7a4 36 = .ok (.bipush 8, 2) := by decide +kernel
theorem dJ6_bitCount_0f7a4_38 : decode cJ6_bitCount_0f7a4 38 = .ok (.iushr, 1) := by decide +kernel
theorem dJ6_bitCount_0f7a4_39 : decode cJ6_bitCount_0f7a4 39 = .ok (.iadd, 1) := by decide +kernel
theorem dJ6_bitCount_0f7a4_40 : decode cJ6_bitCount_0f7a4 40 = .ok (.istore_n 0, 1) := by decide +kernel
theorem dJ6_bitCount_0f7a4_41 : decode cJ6_bitCount_0f7a4 41 = .ok (.iload_n 0, 1) := by decide +kernel
theorem dJ6_bitCount_0f7a4_42 : decode cJ6_bitCount_0f7a4 42 = .ok (.iload_n 0, 1) := by decide +kernel
theorem dJ6_bitCount_0f7a4_43 : decode cJ6_bitCount_0f7a4 43 = .ok (.bipush 16, 2) := by decide +kernel
theorem dJ6_bitCount_0f7a4_45 : decode cJ6_bitCount_0f7a4 45 = .ok (.iushr, 1) := by decide +kernel
theorem dJ6_bitCount_0f7a4_46 : decode cJ6_bitCount_0f7a4 46 = .ok (.iadd, 1) := by decide +kernel
theorem dJ6_bitCount_0f7a4_47 : decode cJ6_bitCount_0f7a4 47 = .ok (.istore_n 0, 1) := by decide +kernel
theorem dJ6_bitCount_0f7a4_48 : decode cJ6_bitCount_0f7a4 48 = .ok (.iload_n 0, 1) := by decide +kernel
theorem dJ6_bitCount_0f7a4_49 : decode cJ6_bitCount_0f7a4 49 = .ok (.bipush 63, 2) := by decide +kernel
theorem dJ6_bitCount_0f7a4_51 : decode cJ6_bitCount_0f7a4 51 = .ok (.iand, 1) := by decide +kernel
theorem dJ6_bitCount_0f7a4_52 : decode cJ6_bitCount_0f7a4 52 = .ok (.ireturn, 1) := by decide +kernel
theorem dX0_splittableNets_0 : decode cX0_splittableNets 0 = .ok (.iconst 0, 1) := by decide +kernel
theorem dX0_splittableNets_1 : decode cX0_splittableNets 1 = .ok (.istore_n 1, 1) := by decide +kernel
theorem dX0_splittableNets_2 : decode cX0_splittableNets 2 = .ok (.iconst 0, 1) := by decide +kernel
theorem dX0_splittableNets_3 : decode cX0_splittableNets 3 = .ok (.istore_n 2, 1) := by decide +kernel
theorem dX0_splittableNets_4 : decode cX0_splittableNets 4 = .ok (.iload_n 2, 1) := by decide +kernel
theorem dX0_splittableNets_5 : decode cX0_splittableNets 5 = .ok (.bipush 6, 2) := by decide +kernel
theorem dX0_splittableNets_7 : decode cX0_splittableNets 7 = .ok (.if_icmp .ge 27, 3) := by decide +kernel
theorem dX0_splittableNets_10 : decode cX0_splittableNets 10 = .ok (.aload_n 0, 1) := by decide +kernel
theorem dX0_splittableNets_11 : decode cX0_splittableNets 11 = .ok (.iload_n 2, 1) := by decide +kernel
theorem dX0_splittableNets_12 : decode cX0_splittableNets 12 = .ok (.invokevirtual 27, 3) := by decide +kernel
theorem dX0_splittableNets_15 : decode cX0_splittableNets 15 = .ok (.invokestatic 30, 3) := by decide +kernel
theorem dX0_splittableNets_18 : decode cX0_splittableNets 18 = .ok (.iconst 2, 1) := by decide +kernel
theorem dX0_splittableNets_19 : decode cX0_splittableNets 19 = .ok (.if_icmp .le 9, 3) := by decide +kernel
theorem dX0_splittableNets_22 : decode cX0_splittableNets 22 = .ok (.iload_n 1, 1) := by decide +kernel
theorem dX0_splittableNets_23 : decode cX0_splittableNets 23 = .ok (.iconst 1, 1) := by decide +kernel
theorem dX0_splittableNets_24 : decode cX0_splittableNets 24 = .ok (.iload_n 2, 1) := by decide +kernel
theorem dX0_splittableNets_25 : decode cX0_splittableNets 25 = .ok (.ishl, 1) := by decide +kernel
theorem dX0_splittableNets_26 : decode cX0_splittableNets 26 = .ok (.ior, 1) := by decide +kernel
theorem dX0_splittableNets_27 : decode cX0_splittableNets 27 = .ok (.istore_n 1, 1) := by decide +kernel
theorem dX0_splittableNets_28 : decode cX0_splittableNets 28 = .ok (.iinc 2 1, 3) := by decide +kernel
theorem dX0_splittableNets_31 : decode cX0_splittableNets 31 = .ok (.goto (-27), 3) := by decide +kernel
theorem dX0_splittableNets_34 : decode cX0_splittableNets 34 = .ok (.iload_n 1, 1) := by decide +kernel
theorem dX0_splittableNets_35 : decode cX0_splittableNets 35 = .ok (.ireturn, 1) := by decide +kernel
theorem dX1_takeAllAway_0 : decode cX1_takeAllAway 0 = .ok (.iconst 0, 1) := by decide +kernel
theorem dX1_takeAllAway_1 : decode cX1_takeAllAway 1 = .ok (.istore_n 1, 1) := by decide +kernel
theorem dX1_takeAllAway_2 : decode cX1_takeAllAway 2 = .ok (.iload_n 1, 1) := by decide +kernel
theorem dX1_takeAllAway_3 : decode cX1_takeAllAway 3 = .ok (.bipush 14, 2) := by decide +kernel
theorem dX1_takeAllAway_5 : decode cX1_takeAllAway 5 = .ok (.if_icmp .ge 16, 3) := by decide +kernel
theorem dX1_takeAllAway_8 : decode cX1_takeAllAway 8 = .ok (.aload_n 0, 1) := by decide +kernel
theorem dX1_takeAllAway_9 : decode cX1_takeAllAway 9 = .ok (.getfield 9, 3) := by decide +kernel
theorem dX1_takeAllAway_12 : decode cX1_takeAllAway 12 = .ok (.iload_n 1, 1) := by decide +kernel
theorem dX1_takeAllAway_13 : decode cX1_takeAllAway 13 = .ok (.iconst (-1), 1) := by decide +kernel
theorem dX1_takeAllAway_14 : decode cX1_takeAllAway 14 = .ok (.iastore, 1) := by decide +kernel
theorem dX1_takeAllAway_15 : decode cX1_takeAllAway 15 = .ok (.iinc 1 1, 3) := by decide +kernel
theorem dX1_takeAllAway_18 : decode cX1_takeAllAway 18 = .ok (.goto (-16), 3) := by decide +kernel
theorem dX1_takeAllAway_21 : decode cX1_takeAllAway 21 = .ok (.return_, 1) := by decide +kernel
theorem dX1_placed_0 : decode cX1_placed 0 = .ok (.iconst 0, 1) := by decide +kernel
theorem dX1_placed_1 : decode cX1_placed 1 = .ok (.istore_n 1, 1) := by decide +kernel
theorem dX1_placed_2 : decode cX1_placed 2 = .ok (.iconst 0, 1) := by decide +kernel
theorem dX1_placed_3 : decode cX1_placed 3 = .ok (.istore_n 2, 1) := by decide +kernel
theorem dX1_placed_4 : decode cX1_placed 4 = .ok (.iload_n 2, 1) := by decide +kernel
theorem dX1_placed_5 : decode cX1_placed 5 = .ok (.bipush 14, 2) := by decide +kernel
theorem dX1_placed_7 : decode cX1_placed 7 = .ok (.if_icmp .ge 22, 3) := by decide +kernel
theorem dX1_placed_10 : decode cX1_placed 10 = .ok (.aload_n 0, 1) := by decide +kernel
theorem dX1_placed_11 : decode cX1_placed 11 = .ok (.getfield 9, 3) := by decide +kernel
theorem dX1_placed_14 : decode cX1_placed 14 = .ok (.iload_n 2, 1) := by decide +kernel
theorem dX1_placed_15 : decode cX1_placed 15 = .ok (.iaload, 1) := by decide +kernel
theorem dX1_placed_16 : decode cX1_placed 16 = .ok (.iconst (-1), 1) := by decide +kernel
theorem dX1_placed_17 : decode cX1_placed 17 = .ok (.if_icmp .eq 6, 3) := by decide +kernel
theorem dX1_placed_20 : decode cX1_placed 20 = .ok (.iinc 1 1, 3) := by decide +kernel
theorem dX1_placed_23 : decode cX1_placed 23 = .ok (.iinc 2 1, 3) := by decide +kernel
theorem dX1_placed_26 : decode cX1_placed 26 = .ok (.goto (-22), 3) := by decide +kernel
theorem dX1_placed_29 : decode cX1_placed 29 = .ok (.iload_n 1, 1) := by decide +kernel
theorem dX1_placed_30 : decode cX1_placed 30 = .ok (.ireturn, 1) := by decide +kernel
theorem dX1_depth_0 : decode cX1_depth 0 = .ok (.iconst (-1), 1) := by decide +kernel
theorem dX1_depth_1 : decode cX1_depth 1 = .ok (.istore_n 1, 1) := by decide +kernel
theorem dX1_depth_2 : decode cX1_depth 2 = .ok (.iconst 0, 1) := by decide +kernel
theorem dX1_depth_3 : decode cX1_depth 3 = .ok (.istore_n 2, 1) := by decide +kernel
theorem dX1_depth_4 : decode cX1_depth 4 = .ok (.iload_n 2, 1) := by decide +kernel
theorem dX1_depth_5 : decode cX1_depth 5 = .ok (.bipush 14, 2) := by decide +kernel
theorem dX1_depth_7 : decode cX1_depth 7 = .ok (.if_icmp .ge 20, 3) := by decide +kernel
theorem dX1_depth_10 : decode cX1_depth 10 = .ok (.iload_n 1, 1) := by decide +kernel
theorem dX1_depth_11 : decode cX1_depth 11 = .ok (.aload_n 0, 1) := by decide +kernel
theorem dX1_depth_12 : decode cX1_depth 12 = .ok (.getfield 9, 3) := by decide +kernel
theorem dX1_depth_15 : decode cX1_depth 15 = .ok (.iload_n 2, 1) := by decide +kernel
theorem dX1_depth_16 : decode cX1_depth 16 = .ok (.iaload, 1) := by decide +kernel
theorem dX1_depth_17 : decode cX1_depth 17 = .ok (.invokestatic 18, 3) := by decide +kernel
theorem dX1_depth_20 : decode cX1_depth 20 = .ok (.istore_n 1, 1) := by decide +kernel
theorem dX1_depth_21 : decode cX1_depth 21 = .ok (.iinc 2 1, 3) := by decide +kernel
theorem dX1_depth_24 : decode cX1_depth 24 = .ok (.goto (-20), 3) := by decide +kernel
theorem dX1_depth_27 : decode cX1_depth 27 = .ok (.iload_n 1, 1) := by decide +kernel
theorem dX1_depth_28 : decode cX1_depth 28 = .ok (.iconst 1, 1) := by decide +kernel
theorem dX1_depth_29 : decode cX1_depth 29 = .ok (.iadd, 1) := by decide +kernel
theorem dX1_depth_30 : decode cX1_depth 30 = .ok (.ireturn, 1) := by decide +kernel
theorem dX3_overlap_0 : decode cX3_overlap 0 = .ok (.aload_n 0, 1) := by decide +kernel
theorem dX3_overlap_1 : decode cX3_overlap 1 = .ok (.getfield 15, 3) := by decide +kernel
theorem dX3_overlap_4 : decode cX3_overlap 4 = .ok (.iload_n 1, 1) := by decide +kernel
theorem dX3_overlap_5 : decode cX3_overlap 5 = .ok (.iaload, 1) := by decide +kernel
theorem dX3_overlap_6 : decode cX3_overlap 6 = .ok (.aload_n 0, 1) := by decide +kernel
theorem dX3_overlap_7 : decode cX3_overlap 7 = .ok (.getfield 18, 3) := by decide +kernel
theorem dX3_overlap_10 : decode cX3_overlap 10 = .ok (.iload_n 2, 1) := by decide +kernel
theorem dX3_overlap_11 : decode cX3_overlap 11 = .ok (.iaload, 1) := by decide +kernel
theorem dX3_overlap_12 : decode cX3_overlap 12 = .ok (.if_icmp .gt 22, 3) := by decide +kernel
theorem dX3_overlap_15 : decode cX3_overlap 15 = .ok (.aload_n 0, 1) := by decide +kernel
theorem dX3_overlap_16 : decode cX3_overlap 16 = .ok (.getfield 15, 3) := by decide +kernel
theorem dX3_overlap_19 : decode cX3_overlap 19 = .ok (.iload_n 2, 1) := by decide +kernel
theorem dX3_overlap_20 : decode cX3_overlap 20 = .ok (.iaload, 1) := by decide +kernel
theorem dX3_overlap_21 : decode cX3_overlap 21 = .ok (.aload_n 0, 1) := by decide +kernel
theorem dX3_overlap_22 : decode cX3_overlap 22 = .ok (.getfield 18, 3) := by decide +kernel
theorem dX3_overlap_25 : decode cX3_overlap 25 = .ok (.iload_n 1, 1) := by decide +kernel
theorem dX3_overlap_26 : decode cX3_overlap 26 = .ok (.iaload, 1) := by decide +kernel
theorem dX3_overlap_27 : decode cX3_overlap 27 = .ok (.if_icmp .gt 7, 3) := by decide +kernel
theorem dX3_overlap_30 : decode cX3_overlap 30 = .ok (.iconst 1, 1) := by decide +kernel
theorem dX3_overlap_31 : decode cX3_overlap 31 = .ok (.goto 4, 3) := by decide +kernel
theorem dX3_overlap_34 : decode cX3_overlap 34 = .ok (.iconst 0, 1) := by decide +kernel
theorem dX3_overlap_35 : decode cX3_overlap 35 = .ok (.istore_n 3, 1) := by decide +kernel
theorem dX3_overlap_36 : decode cX3_overlap 36 = .ok (.iload_n 3, 1) := by decide +kernel
theorem dX3_overlap_37 : decode cX3_overlap 37 = .ok (.ifCond .eq 22, 3) := by decide +kernel
theorem dX3_overlap_40 : decode cX3_overlap 40 = .ok (.aload_n 0, 1) := by decide +kernel
theorem dX3_overlap_41 : decode cX3_overlap 41 = .ok (.getfield 9, 3) := by decide +kernel
theorem dX3_overlap_44 : decode cX3_overlap 44 = .ok (.iload_n 1, 1) := by decide +kernel
theorem dX3_overlap_45 : decode cX3_overlap 45 = .ok (.iaload, 1) := by decide +kernel
theorem dX3_overlap_46 : decode cX3_overlap 46 = .ok (.aload_n 0, 1) := by decide +kernel
theorem dX3_overlap_47 : decode cX3_overlap 47 = .ok (.getfield 9, 3) := by decide +kernel
theorem dX3_overlap_50 : decode cX3_overlap 50 = .ok (.iload_n 2, 1) := by decide +kernel
theorem dX3_overlap_51 : decode cX3_overlap 51 = .ok (.iaload, 1) := by decide +kernel
theorem dX3_overlap_52 : decode cX3_overlap 52 = .ok (.if_icmp .eq 7, 3) := by decide +kernel
theorem dX3_overlap_55 : decode cX3_overlap 55 = .ok (.iconst 1, 1) := by decide +kernel
theorem dX3_overlap_56 : decode cX3_overlap 56 = .ok (.goto 4, 3) := by decide +kernel
theorem dX3_overlap_59 : decode cX3_overlap 59 = .ok (.iconst 0, 1) := by decide +kernel
theorem dX3_overlap_60 : decode cX3_overlap 60 = .ok (.ireturn, 1) := by decide +kernel
theorem dX3_isAbove_0 : decode cX3_isAbove 0 = .ok (.aload_n 0, 1) := by decide +kernel
theorem dX3_isAbove_1 : decode cX3_isAbove 1 = .ok (.getfield 21, 3) := by decide +kernel
theorem dX3_isAbove_4 : decode cX3_isAbove 4 = .ok (.iload_n 1, 1) := by decide +kernel
theorem dX3_isAbove_5 : decode cX3_isAbove 5 = .ok (.iaload, 1) := by decide +kernel
theorem dX3_isAbove_6 : decode cX3_isAbove 6 = .ok (.iconst 1, 1) := by decide +kernel
theorem dX3_isAbove_7 : decode cX3_isAbove 7 = .ok (.iload_n 2, 1) := by decide +kernel
theorem dX3_isAbove_8 : decode cX3_isAbove 8 = .ok (.ishl, 1) := by decide +kernel
theorem dX3_isAbove_9 : decode cX3_isAbove 9 = .ok (.iand, 1) := by decide +kernel
theorem dX3_isAbove_10 : decode cX3_isAbove 10 = .ok (.ifCond .eq 7, 3) := by decide +kernel
theorem dX3_isAbove_13 : decode cX3_isAbove 13 = .ok (.iconst 1, 1) := by decide +kernel
theorem dX3_isAbove_14 : decode cX3_isAbove 14 = .ok (.goto 4, 3) := by decide +kernel
theorem dX3_isAbove_17 : decode cX3_isAbove 17 = .ok (.iconst 0, 1) := by decide +kernel
theorem dX3_isAbove_18 : decode cX3_isAbove 18 = .ok (.ireturn, 1) := by decide +kernel
theorem dX1_fitsBefore_0 : decode cX1_fitsBefore 0 = .ok (.iconst 0, 1) := by decide +kernel
theorem dX1_fitsBefore_1 : decode cX1_fitsBefore 1 = .ok (.istore_n 3, 1) := by decide +kernel
theorem dX1_fitsBefore_2 : decode cX1_fitsBefore 2 = .ok (.iload_n 3, 1) := by decide +kernel
theorem dX1_fitsBefore_3 : decode cX1_fitsBefore 3 = .ok (.iload_n 2, 1) := by decide +kernel
theorem dX1_fitsBefore_4 : decode cX1_fitsBefore 4 = .ok (.if_icmp .ge 119, 3) := by decide +kernel
theorem dX1_fitsBefore_7 : decode cX1_fitsBefore 7 = .ok (.aload_n 0, 1) := by decide +kernel
theorem dX1_fitsBefore_8 : decode cX1_fitsBefore 8 = .ok (.getfield 9, 3) := by decide +kernel
theorem dX1_fitsBefore_11 : decode cX1_fitsBefore 11 = .ok (.iload_n 3, 1) := by decide +kernel
theorem dX1_fitsBefore_12 : decode cX1_fitsBefore 12 = .ok (.iaload, 1) := by decide +kernel
theorem dX1_fitsBefore_13 : decode cX1_fitsBefore 13 = .ok (.aload_n 0, 1) := by decide +kernel
theorem dX1_fitsBefore_14 : decode cX1_fitsBefore 14 = .ok (.getfield 9, 3) := by decide +kernel
theorem dX1_fitsBefore_17 : decode cX1_fitsBefore 17 = .ok (.iload_n 2, 1) := by decide +kernel
theorem dX1_fitsBefore_18 : decode cX1_fitsBefore 18 = .ok (.iaload, 1) := by decide +kernel
theorem dX1_fitsBefore_19 : decode cX1_fitsBefore 19 = .ok (.if_icmp .ne 16, 3) := by decide +kernel
theorem dX1_fitsBefore_22 : decode cX1_fitsBefore 22 = .ok (.aload_n 1, 1) := by decide +kernel
theorem dX1_fitsBefore_23 : decode cX1_fitsBefore 23 = .ok (.iload_n 3, 1) := by decide +kernel
theorem dX1_fitsBefore_24 : decode cX1_fitsBefore 24 = .ok (.iload_n 2, 1) := by decide +kernel
theorem dX1_fitsBefore_25 : decode cX1_fitsBefore 25 = .ok (.invokevirtual 34, 3) := by decide +kernel
theorem dX1_fitsBefore_28 : decode cX1_fitsBefore 28 = .ok (.ifCond .eq 7, 3) := by decide +kernel
theorem dX1_fitsBefore_31 : decode cX1_fitsBefore 31 = .ok (.iconst 1, 1) := by decide +kernel
theorem dX1_fitsBefore_32 : decode cX1_fitsBefore 32 = .ok (.goto 4, 3) := by decide +kernel
theorem dX1_fitsBefore_35 : decode cX1_fitsBefore 35 = .ok (.iconst 0, 1) := by decide +kernel
theorem dX1_fitsBefore_36 : decode cX1_fitsBefore 36 = .ok (.istore 4, 2) := by decide +kernel
theorem dX1_fitsBefore_38 : decode cX1_fitsBefore 38 = .ok (.aload_n 0, 1) := by decide +kernel
theorem dX1_fitsBefore_39 : decode cX1_fitsBefore 39 = .ok (.getfield 9, 3) := by decide +kernel
theorem dX1_fitsBefore_42 : decode cX1_fitsBefore 42 = .ok (.iload_n 3, 1) := by decide +kernel
theorem dX1_fitsBefore_43 : decode cX1_fitsBefore 43 = .ok (.iaload, 1) := by decide +kernel
theorem dX1_fitsBefore_44 : decode cX1_fitsBefore 44 = .ok (.aload_n 0, 1) := by decide +kernel
theorem dX1_fitsBefore_45 : decode cX1_fitsBefore 45 = .ok (.getfield 9, 3) := by decide +kernel
theorem dX1_fitsBefore_48 : decode cX1_fitsBefore 48 = .ok (.iload_n 2, 1) := by decide +kernel
theorem dX1_fitsBefore_49 : decode cX1_fitsBefore 49 = .ok (.iaload, 1) := by decide +kernel
theorem dX1_fitsBefore_50 : decode cX1_fitsBefore 50 = .ok (.if_icmp .gt 16, 3) := by decide +kernel
theorem dX1_fitsBefore_53 : decode cX1_fitsBefore 53 = .ok (.aload_n 1, 1) := by decide +kernel
theorem dX1_fitsBefore_54 : decode cX1_fitsBefore 54 = .ok (.iload_n 2, 1) := by decide +kernel
theorem dX1_fitsBefore_55 : decode cX1_fitsBefore 55 = .ok (.iload_n 3, 1) := by decide +kernel
theorem dX1_fitsBefore_56 : decode cX1_fitsBefore 56 = .ok (.invokevirtual 38, 3) := by decide +kernel
theorem dX1_fitsBefore_59 : decode cX1_fitsBefore 59 = .ok (.ifCond .eq 7, 3) := by decide +kernel
theorem dX1_fitsBefore_62 : decode cX1_fitsBefore 62 = .ok (.iconst 1, 1) := by decide +kernel
theorem dX1_fitsBefore_63 : decode cX1_fitsBefore 63 = .ok (.goto 4, 3) := by decide +kernel
theorem dX1_fitsBefore_66 : decode cX1_fitsBefore 66 = .ok (.iconst 0, 1) := by decide +kernel
theorem dX1_fitsBefore_67 : decode cX1_fitsBefore 67 = .ok (.istore 5, 2) := by decide +kernel
theorem dX1_fitsBefore_69 : decode cX1_fitsBefore 69 = .ok (.aload_n 0, 1) := by decide +kernel
theorem dX1_fitsBefore_70 : decode cX1_fitsBefore 70 = .ok (.getfield 9, 3) := by decide +kernel
theorem dX1_fitsBefore_73 : decode cX1_fitsBefore 73 = .ok (.iload_n 3, 1) := by decide +kernel
theorem dX1_fitsBefore_74 : decode cX1_fitsBefore 74 = .ok (.iaload, 1) := by decide +kernel
theorem dX1_fitsBefore_75 : decode cX1_fitsBefore 75 = .ok (.aload_n 0, 1) := by decide +kernel
theorem dX1_fitsBefore_76 : decode cX1_fitsBefore 76 = .ok (.getfield 9, 3) := by decide +kernel
theorem dX1_fitsBefore_79 : decode cX1_fitsBefore 79 = .ok (.iload_n 2, 1) := by decide +kernel
theorem dX1_fitsBefore_80 : decode cX1_fitsBefore 80 = .ok (.iaload, 1) := by decide +kernel
theorem dX1_fitsBefore_81 : decode cX1_fitsBefore 81 = .ok (.if_icmp .lt 16, 3) := by decide +kernel
theorem dX1_fitsBefore_84 : decode cX1_fitsBefore 84 = .ok (.aload_n 1, 1) := by decide +kernel
theorem dX1_fitsBefore_85 : decode cX1_fitsBefore 85 = .ok (.iload_n 3, 1) := by decide +kernel
theorem dX1_fitsBefore_86 : decode cX1_fitsBefore 86 = .ok (.iload_n 2, 1) := by decide +kernel
theorem dX1_fitsBefore_87 : decode cX1_fitsBefore 87 = .ok (.invokevirtual 38, 3) := by decide +kernel
theorem dX1_fitsBefore_90 : decode cX1_fitsBefore 90 = .ok (.ifCond .eq 7, 3) := by decide +kernel
theorem dX1_fitsBefore_93 : decode cX1_fitsBefore 93 = .ok (.iconst 1, 1) := by decide +kernel
theorem dX1_fitsBefore_94 : decode cX1_fitsBefore 94 = .ok (.goto 4, 3) := by decide +kernel
theorem dX1_fitsBefore_97 : decode cX1_fitsBefore 97 = .ok (.iconst 0, 1) := by decide +kernel
theorem dX1_fitsBefore_98 : decode cX1_fitsBefore 98 = .ok (.istore 6, 2) := by decide +kernel
theorem dX1_fitsBefore_100 : decode cX1_fitsBefore 100 = .ok (.iload 4, 2) := by decide +kernel
theorem dX1_fitsBefore_102 : decode cX1_fitsBefore 102 = .ok (.ifCond .ne 13, 3) := by decide +kernel
theorem dX1_fitsBefore_105 : decode cX1_fitsBefore 105 = .ok (.iload 5, 2) := by decide +kernel
theorem dX1_fitsBefore_107 : decode cX1_fitsBefore 107 = .ok (.ifCond .ne 8, 3) := by decide +kernel
theorem dX1_fitsBefore_110 : decode cX1_fitsBefore 110 = .ok (.iload 6, 2) := by decide +kernel
theorem dX1_fitsBefore_112 : decode cX1_fitsBefore 112 = .ok (.ifCond .eq 5, 3) := by decide +kernel
theorem dX1_fitsBefore_115 : decode cX1_fitsBefore 115 = .ok (.iconst 0, 1) := by decide +kernel
theorem dX1_fitsBefore_116 : decode cX1_fitsBefore 116 = .ok (.ireturn, 1) := by decide +kernel
theorem dX1_fitsBefore_117 : decode cX1_fitsBefore 117 = .ok (.iinc 3 1, 3) := by decide +kernel
theorem dX1_fitsBefore_120 : decode cX1_fitsBefore 120 = .ok (.goto (-118), 3) := by decide +kernel
theorem dX1_fitsBefore_123 : decode cX1_fitsBefore 123 = .ok (.iconst 1, 1) := by decide +kernel
theorem dX1_fitsBefore_124 : decode cX1_fitsBefore 124 = .ok (.ireturn, 1) := by decide +kernel
theorem dX1_isValid_0 : decode cX1_isValid 0 = .ok (.iconst 0, 1) := by decide +kernel
theorem dX1_isValid_1 : decode cX1_isValid 1 = .ok (.istore_n 2, 1) := by decide +kernel
theorem dX1_isValid_2 : decode cX1_isValid 2 = .ok (.iload_n 2, 1) := by decide +kernel
theorem dX1_isValid_3 : decode cX1_isValid 3 = .ok (.aload_n 1, 1) := by decide +kernel
theorem dX1_isValid_4 : decode cX1_isValid 4 = .ok (.getfield 24, 3) := by decide +kernel
theorem dX1_isValid_7 : decode cX1_isValid 7 = .ok (.if_icmp .ge 30, 3) := by decide +kernel
theorem dX1_isValid_10 : decode cX1_isValid 10 = .ok (.aload_n 0, 1) := by decide +kernel
theorem dX1_isValid_11 : decode cX1_isValid 11 = .ok (.getfield 9, 3) := by decide +kernel
theorem dX1_isValid_14 : decode cX1_isValid 14 = .ok (.iload_n 2, 1) := by decide +kernel
theorem dX1_isValid_15 : decode cX1_isValid 15 = .ok (.iaload, 1) := by decide +kernel
theorem dX1_isValid_16 : decode cX1_isValid 16 = .ok (.iconst (-1), 1) := by decide +kernel
theorem dX1_isValid_17 : decode cX1_isValid 17 = .ok (.if_icmp .eq 12, 3) := by decide +kernel
theorem dX1_isValid_20 : decode cX1_isValid 20 = .ok (.aload_n 0, 1) := by decide +kernel
theorem dX1_isValid_21 : decode cX1_isValid 21 = .ok (.aload_n 1, 1) := by decide +kernel
theorem dX1_isValid_22 : decode cX1_isValid 22 = .ok (.iload_n 2, 1) := by decide +kernel
theorem dX1_isValid_23 : decode cX1_isValid 23 = .ok (.invokevirtual 30, 3) := by decide +kernel
theorem dX1_isValid_26 : decode cX1_isValid 26 = .ok (.ifCond .ne 5, 3) := by decide +kernel
theorem dX1_isValid_29 : decode cX1_isValid 29 = .ok (.iconst 0, 1) := by decide +kernel
theorem dX1_isValid_30 : decode cX1_isValid 30 = .ok (.ireturn, 1) := by decide +kernel
theorem dX1_isValid_31 : decode cX1_isValid 31 = .ok (.iinc 2 1, 3) := by decide +kernel
theorem dX1_isValid_34 : decode cX1_isValid 34 = .ok (.goto (-32), 3) := by decide +kernel
theorem dX1_isValid_37 : decode cX1_isValid 37 = .ok (.iconst 1, 1) := by decide +kernel
theorem dX1_isValid_38 : decode cX1_isValid 38 = .ok (.ireturn, 1) := by decide +kernel
theorem dX3_covers_0 : decode cX3_covers 0 = .ok (.aload_n 0, 1) := by decide +kernel
theorem dX3_covers_1 : decode cX3_covers 1 = .ok (.getfield 15, 3) := by decide +kernel
theorem dX3_covers_4 : decode cX3_covers 4 = .ok (.iload_n 1, 1) := by decide +kernel
theorem dX3_covers_5 : decode cX3_covers 5 = .ok (.iaload, 1) := by decide +kernel
theorem dX3_covers_6 : decode cX3_covers 6 = .ok (.iload_n 2, 1) := by decide +kernel
theorem dX3_covers_7 : decode cX3_covers 7 = .ok (.if_icmp .gt 17, 3) := by decide +kernel
theorem dX3_covers_10 : decode cX3_covers 10 = .ok (.iload_n 2, 1) := by decide +kernel
theorem dX3_covers_11 : decode cX3_covers 11 = .ok (.aload_n 0, 1) := by decide +kernel
theorem dX3_covers_12 : decode cX3_covers 12 = .ok (.getfield 18, 3) := by decide +kernel
theorem dX3_covers_15 : decode cX3_covers 15 = .ok (.iload_n 1, 1) := by decide +kernel
theorem dX3_covers_16 : decode cX3_covers 16 = .ok (.iaload, 1) := by decide +kernel
theorem dX3_covers_17 : decode cX3_covers 17 = .ok (.if_icmp .gt 7, 3) := by decide +kernel
theorem dX3_covers_20 : decode cX3_covers 20 = .ok (.iconst 1, 1) := by decide +kernel
theorem dX3_covers_21 : decode cX3_covers 21 = .ok (.goto 4, 3) := by decide +kernel
theorem dX3_covers_24 : decode cX3_covers 24 = .ok (.iconst 0, 1) := by decide +kernel
theorem dX3_covers_25 : decode cX3_covers 25 = .ok (.ireturn, 1) := by decide +kernel
theorem dX1_horizontalNets_0 : decode cX1_horizontalNets 0 = .ok (.iconst 0, 1) := by decide +kernel
theorem dX1_horizontalNets_1 : decode cX1_horizontalNets 1 = .ok (.istore 4, 2) := by decide +kernel
theorem dX1_horizontalNets_3 : decode cX1_horizontalNets 3 = .ok (.iconst 0, 1) := by decide +kernel
theorem dX1_horizontalNets_4 : decode cX1_horizontalNets 4 = .ok (.istore 5, 2) := by decide +kernel
theorem dX1_horizontalNets_6 : decode cX1_horizontalNets 6 = .ok (.iload 5, 2) := by decide +kernel
theorem dX1_horizontalNets_8 : decode cX1_horizontalNets 8 = .ok (.aload_n 1, 1) := by decide +kernel
theorem dX1_horizontalNets_9 : decode cX1_horizontalNets 9 = .ok (.getfield 24, 3) := by decide +kernel
theorem dX1_horizontalNets_12 : decode cX1_horizontalNets 12 = .ok (.if_icmp .ge 44, 3) := by decide +kernel
theorem dX1_horizontalNets_15 : decode cX1_horizontalNets 15 = .ok (.aload_n 0, 1) := by decide +kernel
theorem dX1_horizontalNets_16 : decode cX1_horizontalNets 16 = .ok (.getfield 9, 3) := by decide +kernel
theorem dX1_horizontalNets_19 : decode cX1_horizontalNets 19 = .ok (.iload 5, 2) := by decide +kernel
theorem dX1_horizontalNets_21 : decode cX1_horizontalNets 21 = .ok (.iaload, 1) := by decide +kernel
theorem dX1_horizontalNets_22 : decode cX1_horizontalNets 22 = .ok (.iload_n 2, 1) := by decide +kernel
theorem dX1_horizontalNets_23 : decode cX1_horizontalNets 23 = .ok (.if_icmp .ne 27, 3) := by decide +kernel
theorem dX1_horizontalNets_26 : decode cX1_horizontalNets 26 = .ok (.aload_n 1, 1) := by decide +kernel
theorem dX1_horizontalNets_27 : decode cX1_horizontalNets 27 = .ok (.iload 5, 2) := by decide +kernel
theorem dX1_horizontalNets_29 : decode cX1_horizontalNets 29 = .ok (.iload_n 3, 1) := by decide +kernel
theorem dX1_horizontalNets_30 : decode cX1_horizontalNets 30 = .ok (.invokevirtual 41, 3) := by decide +kernel
theorem dX1_horizontalNets_33 : decode cX1_horizontalNets 33 = .ok (.ifCond .eq 17, 3) := by decide +kernel
theorem dX1_horizontalNets_36 : decode cX1_horizontalNets 36 = .ok (.iload 4, 2) := by decide +kernel
theorem dX1_horizontalNets_38 : decode cX1_horizontalNets 38 = .ok (.iconst 1, 1) := by decide +kernel
theorem dX1_horizontalNets_39 : decode cX1_horizontalNets 39 = .ok (.aload_n 1, 1) := by decide +kernel
theorem dX1_horizontalNets_40 : decode cX1_horizontalNets 40 = .ok (.getfield 44, 3) := by decide +kernel
theorem dX1_horizontalNets_43 : decode cX1_horizontalNets 43 = .ok (.iload 5, 2) := by decide +kernel
theorem dX1_horizontalNets_45 : decode cX1_horizontalNets 45 = .ok (.iaload, 1) := by decide +kernel
theorem dX1_horizontalNets_46 : decode cX1_horizontalNets 46 = .ok (.ishl, 1) := by decide +kernel
theorem dX1_horizontalNets_47 : decode cX1_horizontalNets 47 = .ok (.ior, 1) := by decide +kernel
theorem dX1_horizontalNets_48 : decode cX1_horizontalNets 48 = .ok (.istore 4, 2) := by decide +kernel
theorem dX1_horizontalNets_50 : decode cX1_horizontalNets 50 = .ok (.iinc 5 1, 3) := by decide +kernel
theorem dX1_horizontalNets_53 : decode cX1_horizontalNets 53 = .ok (.goto (-47), 3) := by decide +kernel
theorem dX1_horizontalNets_56 : decode cX1_horizontalNets 56 = .ok (.iload 4, 2) := by decide +kernel
theorem dX1_horizontalNets_58 : decode cX1_horizontalNets 58 = .ok (.ireturn, 1) := by decide +kernel
theorem dX3_isJoined_0 : decode cX3_isJoined 0 = .ok (.aload_n 0, 1) := by decide +kernel
theorem dX3_isJoined_1 : decode cX3_isJoined 1 = .ok (.getfield 9, 3) := by decide +kernel
theorem dX3_isJoined_4 : decode cX3_isJoined 4 = .ok (.iload_n 1, 1) := by decide +kernel
theorem dX3_isJoined_5 : decode cX3_isJoined 5 = .ok (.iaload, 1) := by decide +kernel
theorem dX3_isJoined_6 : decode cX3_isJoined 6 = .ok (.iload_n 2, 1) := by decide +kernel
theorem dX3_isJoined_7 : decode cX3_isJoined 7 = .ok (.if_icmp .ne 20, 3) := by decide +kernel
theorem dX3_isJoined_10 : decode cX3_isJoined 10 = .ok (.aload_n 0, 1) := by decide +kernel
theorem dX3_isJoined_11 : decode cX3_isJoined 11 = .ok (.getfield 33, 3) := by decide +kernel
theorem dX3_isJoined_14 : decode cX3_isJoined 14 = .ok (.iload_n 1, 1) := by decide +kernel
theorem dX3_isJoined_15 : decode cX3_isJoined 15 = .ok (.iaload, 1) := by decide +kernel
theorem dX3_isJoined_16 : decode cX3_isJoined 16 = .ok (.iconst 1, 1) := by decide +kernel
theorem dX3_isJoined_17 : decode cX3_isJoined 17 = .ok (.iload_n 3, 1) := by decide +kernel
theorem dX3_isJoined_18 : decode cX3_isJoined 18 = .ok (.ishl, 1) := by decide +kernel
theorem dX3_isJoined_19 : decode cX3_isJoined 19 = .ok (.iand, 1) := by decide +kernel
theorem dX3_isJoined_20 : decode cX3_isJoined 20 = .ok (.ifCond .eq 7, 3) := by decide +kernel
theorem dX3_isJoined_23 : decode cX3_isJoined 23 = .ok (.iconst 1, 1) := by decide +kernel
theorem dX3_isJoined_24 : decode cX3_isJoined 24 = .ok (.goto 4, 3) := by decide +kernel
theorem dX3_isJoined_27 : decode cX3_isJoined 27 = .ok (.iconst 0, 1) := by decide +kernel
theorem dX3_isJoined_28 : decode cX3_isJoined 28 = .ok (.ireturn, 1) := by decide +kernel
theorem dX1_wireFromTop_0 : decode cX1_wireFromTop 0 = .ok (.iconst 0, 1) := by decide +kernel
theorem dX1_wireFromTop_1 : decode cX1_wireFromTop 1 = .ok (.istore 5, 2) := by decide +kernel
theorem dX1_wireFromTop_3 : decode cX1_wireFromTop 3 = .ok (.iload 5, 2) := by decide +kernel
theorem dX1_wireFromTop_5 : decode cX1_wireFromTop 5 = .ok (.aload_n 1, 1) := by decide +kernel
theorem dX1_wireFromTop_6 : decode cX1_wireFromTop 6 = .ok (.getfield 24, 3) := by decide +kernel
theorem dX1_wireFromTop_9 : decode cX1_wireFromTop 9 = .ok (.if_icmp .ge 34, 3) := by decide +kernel
theorem dX1_wireFromTop_12 : decode cX1_wireFromTop 12 = .ok (.aload_n 1, 1) := by decide +kernel
theorem dX1_wireFromTop_13 : decode cX1_wireFromTop 13 = .ok (.iload 5, 2) := by decide +kernel
theorem dX1_wireFromTop_15 : decode cX1_wireFromTop 15 = .ok (.iload_n 2, 1) := by decide +kernel
theorem dX1_wireFromTop_16 : decode cX1_wireFromTop 16 = .ok (.iload 4, 2) := by decide +kernel
theorem dX1_wireFromTop_18 : decode cX1_wireFromTop 18 = .ok (.invokevirtual 59, 3) := by decide +kernel
theorem dX1_wireFromTop_21 : decode cX1_wireFromTop 21 = .ok (.ifCond .eq 16, 3) := by decide +kernel
theorem dX1_wireFromTop_24 : decode cX1_wireFromTop 24 = .ok (.aload_n 0, 1) := by decide +kernel
theorem dX1_wireFromTop_25 : decode cX1_wireFromTop 25 = .ok (.getfield 9, 3) := by decide +kernel
theorem dX1_wireFromTop_28 : decode cX1_wireFromTop 28 = .ok (.iload 5, 2) := by decide +kernel
theorem dX1_wireFromTop_30 : decode cX1_wireFromTop 30 = .ok (.iaload, 1) := by decide +kernel
theorem dX1_wireFromTop_31 : decode cX1_wireFromTop 31 = .ok (.iload_n 3, 1) := by decide +kernel
theorem dX1_wireFromTop_32 : decode cX1_wireFromTop 32 = .ok (.if_icmp .lt 5, 3) := by decide +kernel
theorem dX1_wireFromTop_35 : decode cX1_wireFromTop 35 = .ok (.iconst 1, 1) := by decide +kernel
theorem dX1_wireFromTop_36 : decode cX1_wireFromTop 36 = .ok (.ireturn, 1) := by decide +kernel
theorem dX1_wireFromTop_37 : decode cX1_wireFromTop 37 = .ok (.iinc 5 1, 3) := by decide +kernel
theorem dX1_wireFromTop_40 : decode cX1_wireFromTop 40 = .ok (.goto (-37), 3) := by decide +kernel
theorem dX1_wireFromTop_43 : decode cX1_wireFromTop 43 = .ok (.iconst 0, 1) := by decide +kernel
theorem dX1_wireFromTop_44 : decode cX1_wireFromTop 44 = .ok (.ireturn, 1) := by decide +kernel
theorem dX1_wireFromBottom_0 : decode cX1_wireFromBottom 0 = .ok (.iconst 0, 1) := by decide +kernel
theorem dX1_wireFromBottom_1 : decode cX1_wireFromBottom 1 = .ok (.istore 5, 2) := by decide +kernel
theorem dX1_wireFromBottom_3 : decode cX1_wireFromBottom 3 = .ok (.iload 5, 2) := by decide +kernel
theorem dX1_wireFromBottom_5 : decode cX1_wireFromBottom 5 = .ok (.aload_n 1, 1) := by decide +kernel
theorem dX1_wireFromBottom_6 : decode cX1_wireFromBottom 6 = .ok (.getfield 24, 3) := by decide +kernel
theorem dX1_wireFromBottom_9 : decode cX1_wireFromBottom 9 = .ok (.if_icmp .ge 57, 3) := by decide +kernel
theorem dX1_wireFromBottom_12 : decode cX1_wireFromBottom 12 = .ok (.aload_n 0, 1) := by decide +kernel
theorem dX1_wireFromBottom_13 : decode cX1_wireFromBottom 13 = .ok (.getfield 9, 3) := by decide +kernel
theorem dX1_wireFromBottom_16 : decode cX1_wireFromBottom 16 = .ok (.iload 5, 2) := by decide +kernel
theorem dX1_wireFromBottom_18 : decode cX1_wireFromBottom 18 = .ok (.iaload, 1) := by decide +kernel
theorem dX1_wireFromBottom_19 : decode cX1_wireFromBottom 19 = .ok (.iconst (-1), 1) := by decide +kernel
theorem dX1_wireFromBottom_20 : decode cX1_wireFromBottom 20 = .ok (.if_icmp .eq 18, 3) := by decide +kernel
theorem dX1_wireFromBottom_23 : decode cX1_wireFromBottom 23 = .ok (.aload_n 0, 1) := by decide +kernel
theorem dX1_wireFromBottom_24 : decode cX1_wireFromBottom 24 = .ok (.getfield 9, 3) := by decide +kernel
theorem dX1_wireFromBottom_27 : decode cX1_wireFromBottom 27 = .ok (.iload 5, 2) := by decide +kernel
theorem dX1_wireFromBottom_29 : decode cX1_wireFromBottom 29 = .ok (.iaload, 1) := by decide +kernel
theorem dX1_wireFromBottom_30 : decode cX1_wireFromBottom 30 = .ok (.iload_n 3, 1) := by decide +kernel
theorem dX1_wireFromBottom_31 : decode cX1_wireFromBottom 31 = .ok (.if_icmp .gt 7, 3) := by decide +kernel
theorem dX1_wireFromBottom_34 : decode cX1_wireFromBottom 34 = .ok (.iconst 1, 1) := by decide +kernel
theorem dX1_wireFromBottom_35 : decode cX1_wireFromBottom 35 = .ok (.goto 4, 3) := by decide +kernel
theorem dX1_wireFromBottom_38 : decode cX1_wireFromBottom 38 = .ok (.iconst 0, 1) := by decide +kernel
theorem dX1_wireFromBottom_39 : decode cX1_wireFromBottom 39 = .ok (.istore 6, 2) := by decide +kernel
theorem dX1_wireFromBottom_41 : decode cX1_wireFromBottom 41 = .ok (.iload 6, 2) := by decide +kernel
theorem dX1_wireFromBottom_43 : decode cX1_wireFromBottom 43 = .ok (.ifCond .eq 17, 3) := by decide +kernel
theorem dX1_wireFromBottom_46 : decode cX1_wireFromBottom 46 = .ok (.aload_n 1, 1) := by decide +kernel
theorem dX1_wireFromBottom_47 : decode cX1_wireFromBottom 47 = .ok (.iload 5, 2) := by decide +kernel
theorem dX1_wireFromBottom_49 : decode cX1_wireFromBottom 49 = .ok (.iload_n 2, 1) := by decide +kernel
theorem dX1_wireFromBottom_50 : decode cX1_wireFromBottom 50 = .ok (.iload 4, 2) := by decide +kernel
theorem dX1_wireFromBottom_52 : decode cX1_wireFromBottom 52 = .ok (.invokevirtual 59, 3) := by decide +kernel
theorem dX1_wireFromBottom_55 : decode cX1_wireFromBottom 55 = .ok (.ifCond .eq 5, 3) := by decide +kernel
theorem dX1_wireFromBottom_58 : decode cX1_wireFromBottom 58 = .ok (.iconst 1, 1) := by decide +kernel
theorem dX1_wireFromBottom_59 : decode cX1_wireFromBottom 59 = .ok (.ireturn, 1) := by decide +kernel
theorem dX1_wireFromBottom_60 : decode cX1_wireFromBottom 60 = .ok (.iinc 5 1, 3) := by decide +kernel
theorem dX1_wireFromBottom_63 : decode cX1_wireFromBottom 63 = .ok (.goto (-60), 3) := by decide +kernel
theorem dX1_wireFromBottom_66 : decode cX1_wireFromBottom 66 = .ok (.iconst 0, 1) := by decide +kernel
theorem dX1_wireFromBottom_67 : decode cX1_wireFromBottom 67 = .ok (.ireturn, 1) := by decide +kernel
theorem dX1_verticalNets_0 : decode cX1_verticalNets 0 = .ok (.aload_n 1, 1) := by decide +kernel
theorem dX1_verticalNets_1 : decode cX1_verticalNets 1 = .ok (.iload 4, 2) := by decide +kernel
theorem dX1_verticalNets_3 : decode cX1_verticalNets 3 = .ok (.iconst 0, 1) := by decide +kernel
theorem dX1_verticalNets_4 : decode cX1_verticalNets 4 = .ok (.invokevirtual 47, 3) := by decide +kernel
theorem dX1_verticalNets_7 : decode cX1_verticalNets 7 = .ok (.istore 5, 2) := by decide +kernel
theorem dX1_verticalNets_9 : decode cX1_verticalNets 9 = .ok (.aload_n 1, 1) := by decide +kernel
theorem dX1_verticalNets_10 : decode cX1_verticalNets 10 = .ok (.iload 4, 2) := by decide +kernel
theorem dX1_verticalNets_12 : decode cX1_verticalNets 12 = .ok (.iconst 1, 1) := by decide +kernel
theorem dX1_verticalNets_13 : decode cX1_verticalNets 13 = .ok (.invokevirtual 47, 3) := by decide +kernel
theorem dX1_verticalNets_16 : decode cX1_verticalNets 16 = .ok (.istore 6, 2) := by decide +kernel
theorem dX1_verticalNets_18 : decode cX1_verticalNets 18 = .ok (.iconst 0, 1) := by decide +kernel
theorem dX1_verticalNets_19 : decode cX1_verticalNets 19 = .ok (.istore 7, 2) := by decide +kernel
theorem dX1_verticalNets_21 : decode cX1_verticalNets 21 = .ok (.iload 5, 2) := by decide +kernel
theorem dX1_verticalNets_23 : decode cX1_verticalNets 23 = .ok (.iconst (-1), 1) := by decide +kernel
theorem dX1_verticalNets_24 : decode cX1_verticalNets 24 = .ok (.if_icmp .eq 32, 3) := by decide +kernel
theorem dX1_verticalNets_27 : decode cX1_verticalNets 27 = .ok (.iload 5, 2) := by decide +kernel
theorem dX1_verticalNets_29 : decode cX1_verticalNets 29 = .ok (.iload 6, 2) := by decide +kernel
theorem dX1_verticalNets_31 : decode cX1_verticalNets 31 = .ok (.if_icmp .eq 16, 3) := by decide +kernel
theorem dX1_verticalNets_34 : decode cX1_verticalNets 34 = .ok (.aload_n 0, 1) := by decide +kernel
theorem dX1_verticalNets_35 : decode cX1_verticalNets 35 = .ok (.aload_n 2, 1) := by decide +kernel
theorem dX1_verticalNets_36 : decode cX1_verticalNets 36 = .ok (.iload 5, 2) := by decide +kernel
theorem dX1_verticalNets_38 : decode cX1_verticalNets 38 = .ok (.iload_n 3, 1) := by decide +kernel
theorem dX1_verticalNets_39 : decode cX1_verticalNets 39 = .ok (.iload 4, 2) := by decide +kernel
theorem dX1_verticalNets_41 : decode cX1_verticalNets 41 = .ok (.invokevirtual 52, 3) := by decide +kernel
theorem dX1_verticalNets_44 : decode cX1_verticalNets 44 = .ok (.ifCond .eq 12, 3) := by decide +kernel
theorem dX1_verticalNets_47 : decode cX1_verticalNets 47 = .ok (.iload 7, 2) := by decide +kernel
theorem dX1_verticalNets_49 : decode cX1_verticalNets 49 = .ok (.iconst 1, 1) := by decide +kernel
theorem dX1_verticalNets_50 : decode cX1_verticalNets 50 = .ok (.iload 5, 2) := by decide +kernel
theorem dX1_verticalNets_52 : decode cX1_verticalNets 52 = .ok (.ishl, 1) := by decide +kernel
theorem dX1_verticalNets_53 : decode cX1_verticalNets 53 = .ok (.ior, 1) := by decide +kernel
theorem dX1_verticalNets_54 : decode cX1_verticalNets 54 = .ok (.istore 7, 2) := by decide +kernel
theorem dX1_verticalNets_56 : decode cX1_verticalNets 56 = .ok (.iload 6, 2) := by decide +kernel
theorem dX1_verticalNets_58 : decode cX1_verticalNets 58 = .ok (.iconst (-1), 1) := by decide +kernel
theorem dX1_verticalNets_59 : decode cX1_verticalNets 59 = .ok (.if_icmp .eq 25, 3) := by decide +kernel
theorem dX1_verticalNets_62 : decode cX1_verticalNets 62 = .ok (.aload_n 0, 1) := by decide +kernel
theorem dX1_verticalNets_63 : decode cX1_verticalNets 63 = .ok (.aload_n 2, 1) := by decide +kernel
theorem dX1_verticalNets_64 : decode cX1_verticalNets 64 = .ok (.iload 6, 2) := by decide +kernel
theorem dX1_verticalNets_66 : decode cX1_verticalNets 66 = .ok (.iload_n 3, 1) := by decide +kernel
theorem dX1_verticalNets_67 : decode cX1_verticalNets 67 = .ok (.iload 4, 2) := by decide +kernel
theorem dX1_verticalNets_69 : decode cX1_verticalNets 69 = .ok (.invokevirtual 56, 3) := by decide +kernel
theorem dX1_verticalNets_72 : decode cX1_verticalNets 72 = .ok (.ifCond .eq 12, 3) := by decide +kernel
theorem dX1_verticalNets_75 : decode cX1_verticalNets 75 = .ok (.iload 7, 2) := by decide +kernel
theorem dX1_verticalNets_77 : decode cX1_verticalNets 77 = .ok (.iconst 1, 1) := by decide +kernel
theorem dX1_verticalNets_78 : decode cX1_verticalNets 78 = .ok (.iload 6, 2) := by decide +kernel
theorem dX1_verticalNets_80 : decode cX1_verticalNets 80 = .ok (.ishl, 1) := by decide +kernel
theorem dX1_verticalNets_81 : decode cX1_verticalNets 81 = .ok (.ior, 1) := by decide +kernel
theorem dX1_verticalNets_82 : decode cX1_verticalNets 82 = .ok (.istore 7, 2) := by decide +kernel
theorem dX1_verticalNets_84 : decode cX1_verticalNets 84 = .ok (.iload 7, 2) := by decide +kernel
theorem dX1_verticalNets_86 : decode cX1_verticalNets 86 = .ok (.ireturn, 1) := by decide +kernel
theorem dX1_conflicts_0 : decode cX1_conflicts 0 = .ok (.iconst 0, 1) := by decide +kernel
theorem dX1_conflicts_1 : decode cX1_conflicts 1 = .ok (.istore_n 3, 1) := by decide +kernel
theorem dX1_conflicts_2 : decode cX1_conflicts 2 = .ok (.aload_n 0, 1) := by decide +kernel
theorem dX1_conflicts_3 : decode cX1_conflicts 3 = .ok (.invokevirtual 63, 3) := by decide +kernel
theorem dX1_conflicts_6 : decode cX1_conflicts 6 = .ok (.istore 4, 2) := by decide +kernel
theorem dX1_conflicts_8 : decode cX1_conflicts 8 = .ok (.iconst 0, 1) := by decide +kernel
theorem dX1_conflicts_9 : decode cX1_conflicts 9 = .ok (.istore 5, 2) := by decide +kernel
theorem dX1_conflicts_11 : decode cX1_conflicts 11 = .ok (.iload 5, 2) := by decide +kernel
theorem dX1_conflicts_13 : decode cX1_conflicts 13 = .ok (.iload 4, 2) := by decide +kernel
theorem dX1_conflicts_15 : decode cX1_conflicts 15 = .ok (.if_icmp .ge 66, 3) := by decide +kernel
theorem dX1_conflicts_18 : decode cX1_conflicts 18 = .ok (.iconst 0, 1) := by decide +kernel
theorem dX1_conflicts_19 : decode cX1_conflicts 19 = .ok (.istore 6, 2) := by decide +kernel
theorem dX1_conflicts_21 : decode cX1_conflicts 21 = .ok (.iload 6, 2) := by decide +kernel
theorem dX1_conflicts_23 : decode cX1_conflicts 23 = .ok (.aload_n 1, 1) := by decide +kernel
theorem dX1_conflicts_24 : decode cX1_conflicts 24 = .ok (.getfield 67, 3) := by decide +kernel
theorem dX1_conflicts_27 : decode cX1_conflicts 27 = .ok (.if_icmp .ge 48, 3) := by decide +kernel
theorem dX1_conflicts_30 : decode cX1_conflicts 30 = .ok (.aload_n 0, 1) := by decide +kernel
theorem dX1_conflicts_31 : decode cX1_conflicts 31 = .ok (.aload_n 2, 1) := by decide +kernel
theorem dX1_conflicts_32 : decode cX1_conflicts 32 = .ok (.iload 5, 2) := by decide +kernel
theorem dX1_conflicts_34 : decode cX1_conflicts 34 = .ok (.iload 6, 2) := by decide +kernel
theorem dX1_conflicts_36 : decode cX1_conflicts 36 = .ok (.invokevirtual 70, 3) := by decide +kernel
theorem dX1_conflicts_39 : decode cX1_conflicts 39 = .ok (.invokestatic 74, 3) := by decide +kernel
theorem dX1_conflicts_42 : decode cX1_conflicts 42 = .ok (.iconst 1, 1) := by decide +kernel
theorem dX1_conflicts_43 : decode cX1_conflicts 43 = .ok (.if_icmp .le 6, 3) := by decide +kernel
theorem dX1_conflicts_46 : decode cX1_conflicts 46 = .ok (.iinc 3 1, 3) := by decide +kernel
theorem dX1_conflicts_49 : decode cX1_conflicts 49 = .ok (.aload_n 0, 1) := by decide +kernel
theorem dX1_conflicts_50 : decode cX1_conflicts 50 = .ok (.aload_n 1, 1) := by decide +kernel
theorem dX1_conflicts_51 : decode cX1_conflicts 51 = .ok (.aload_n 2, 1) := by decide +kernel
theorem dX1_conflicts_52 : decode cX1_conflicts 52 = .ok (.iload 5, 2) := by decide +kernel
theorem dX1_conflicts_54 : decode cX1_conflicts 54 = .ok (.iload 6, 2) := by decide +kernel
theorem dX1_conflicts_56 : decode cX1_conflicts 56 = .ok (.invokevirtual 80, 3) := by decide +kernel
theorem dX1_conflicts_59 : decode cX1_conflicts 59 = .ok (.invokestatic 74, 3) := by decide +kernel
theorem dX1_conflicts_62 : decode cX1_conflicts 62 = .ok (.iconst 1, 1) := by decide +kernel
theorem dX1_conflicts_63 : decode cX1_conflicts 63 = .ok (.if_icmp .le 6, 3) := by decide +kernel
theorem dX1_conflicts_66 : decode cX1_conflicts 66 = .ok (.iinc 3 1, 3) := by decide +kernel
theorem dX1_conflicts_69 : decode cX1_conflicts 69 = .ok (.iinc 6 1, 3) := by decide +kernel
theorem dX1_conflicts_72 : decode cX1_conflicts 72 = .ok (.goto (-51), 3) := by decide +kernel
theorem dX1_conflicts_75 : decode cX1_conflicts 75 = .ok (.iinc 5 1, 3) := by decide +kernel
theorem dX1_conflicts_78 : decode cX1_conflicts 78 = .ok (.goto (-67), 3) := by decide +kernel
theorem dX1_conflicts_81 : decode cX1_conflicts 81 = .ok (.iload_n 3, 1) := by decide +kernel
theorem dX1_conflicts_82 : decode cX1_conflicts 82 = .ok (.ireturn, 1) := by decide +kernel
theorem dX1_isFree_0 : decode cX1_isFree 0 = .ok (.iconst 0, 1) := by decide +kernel
theorem dX1_isFree_1 : decode cX1_isFree 1 = .ok (.istore 4, 2) := by decide +kernel
theorem dX1_isFree_3 : decode cX1_isFree 3 = .ok (.iload 4, 2) := by decide +kernel
theorem dX1_isFree_5 : decode cX1_isFree 5 = .ok (.aload_n 1, 1) := by decide +kernel
theorem dX1_isFree_6 : decode cX1_isFree 6 = .ok (.getfield 24, 3) := by decide +kernel
theorem dX1_isFree_9 : decode cX1_isFree 9 = .ok (.if_icmp .ge 88, 3) := by decide +kernel
theorem dX1_isFree_12 : decode cX1_isFree 12 = .ok (.aload_n 0, 1) := by decide +kernel
theorem dX1_isFree_13 : decode cX1_isFree 13 = .ok (.getfield 9, 3) := by decide +kernel
theorem dX1_isFree_16 : decode cX1_isFree 16 = .ok (.iload 4, 2) := by decide +kernel
theorem dX1_isFree_18 : decode cX1_isFree 18 = .ok (.iaload, 1) := by decide +kernel
theorem dX1_isFree_19 : decode cX1_isFree 19 = .ok (.iconst (-1), 1) := by decide +kernel
theorem dX1_isFree_20 : decode cX1_isFree 20 = .ok (.if_icmp .eq 18, 3) := by decide +kernel
theorem dX1_isFree_23 : decode cX1_isFree 23 = .ok (.aload_n 0, 1) := by decide +kernel
theorem dX1_isFree_24 : decode cX1_isFree 24 = .ok (.getfield 9, 3) := by decide +kernel
theorem dX1_isFree_27 : decode cX1_isFree 27 = .ok (.iload 4, 2) := by decide +kernel
theorem dX1_isFree_29 : decode cX1_isFree 29 = .ok (.iaload, 1) := by decide +kernel
theorem dX1_isFree_30 : decode cX1_isFree 30 = .ok (.iload_n 3, 1) := by decide +kernel
theorem dX1_isFree_31 : decode cX1_isFree 31 = .ok (.if_icmp .ge 7, 3) := by decide +kernel
theorem dX1_isFree_34 : decode cX1_isFree 34 = .ok (.iconst 1, 1) := by decide +kernel
theorem dX1_isFree_35 : decode cX1_isFree 35 = .ok (.goto 4, 3) := by decide +kernel
theorem dX1_isFree_38 : decode cX1_isFree 38 = .ok (.iconst 0, 1) := by decide +kernel
theorem dX1_isFree_39 : decode cX1_isFree 39 = .ok (.istore 5, 2) := by decide +kernel
theorem dX1_isFree_41 : decode cX1_isFree 41 = .ok (.aload_n 0, 1) := by decide +kernel
theorem dX1_isFree_42 : decode cX1_isFree 42 = .ok (.getfield 9, 3) := by decide +kernel
theorem dX1_isFree_45 : decode cX1_isFree 45 = .ok (.iload 4, 2) := by decide +kernel
theorem dX1_isFree_47 : decode cX1_isFree 47 = .ok (.iaload, 1) := by decide +kernel
theorem dX1_isFree_48 : decode cX1_isFree 48 = .ok (.iload_n 3, 1) := by decide +kernel
theorem dX1_isFree_49 : decode cX1_isFree 49 = .ok (.if_icmp .ne 17, 3) := by decide +kernel
theorem dX1_isFree_52 : decode cX1_isFree 52 = .ok (.aload_n 1, 1) := by decide +kernel
theorem dX1_isFree_53 : decode cX1_isFree 53 = .ok (.iload 4, 2) := by decide +kernel
theorem dX1_isFree_55 : decode cX1_isFree 55 = .ok (.iload_n 2, 1) := by decide +kernel
theorem dX1_isFree_56 : decode cX1_isFree 56 = .ok (.invokevirtual 34, 3) := by decide +kernel
theorem dX1_isFree_59 : decode cX1_isFree 59 = .ok (.ifCond .eq 7, 3) := by decide +kernel
theorem dX1_isFree_62 : decode cX1_isFree 62 = .ok (.iconst 1, 1) := by decide +kernel
theorem dX1_isFree_63 : decode cX1_isFree 63 = .ok (.goto 4, 3) := by decide +kernel
theorem dX1_isFree_66 : decode cX1_isFree 66 = .ok (.iconst 0, 1) := by decide +kernel
theorem dX1_isFree_67 : decode cX1_isFree 67 = .ok (.istore 6, 2) := by decide +kernel
theorem dX1_isFree_69 : decode cX1_isFree 69 = .ok (.iload 6, 2) := by decide +kernel
theorem dX1_isFree_71 : decode cX1_isFree 71 = .ok (.ifCond .ne 18, 3) := by decide +kernel
theorem dX1_isFree_74 : decode cX1_isFree 74 = .ok (.aload_n 1, 1) := by decide +kernel
theorem dX1_isFree_75 : decode cX1_isFree 75 = .ok (.iload 4, 2) := by decide +kernel
theorem dX1_isFree_77 : decode cX1_isFree 77 = .ok (.iload_n 2, 1) := by decide +kernel
theorem dX1_isFree_78 : decode cX1_isFree 78 = .ok (.invokevirtual 38, 3) := by decide +kernel
theorem dX1_isFree_81 : decode cX1_isFree 81 = .ok (.ifCond .eq 10, 3) := by decide +kernel
theorem dX1_isFree_84 : decode cX1_isFree 84 = .ok (.iload 5, 2) := by decide +kernel
theorem dX1_isFree_86 : decode cX1_isFree 86 = .ok (.ifCond .ne 5, 3) := by decide +kernel
theorem dX1_isFree_89 : decode cX1_isFree 89 = .ok (.iconst 0, 1) := by decide +kernel
theorem dX1_isFree_90 : decode cX1_isFree 90 = .ok (.ireturn, 1) := by decide +kernel
theorem dX1_isFree_91 : decode cX1_isFree 91 = .ok (.iinc 4 1, 3) := by decide +kernel
theorem dX1_isFree_94 : decode cX1_isFree 94 = .ok (.goto (-91), 3) := by decide +kernel
theorem dX1_isFree_97 : decode cX1_isFree 97 = .ok (.iconst 1, 1) := by decide +kernel
theorem dX1_isFree_98 : decode cX1_isFree 98 = .ok (.ireturn, 1) := by decide +kernel
theorem dX1_leftmost_0 : decode cX1_leftmost 0 = .ok (.iconst (-1), 1) := by decide +kernel
theorem dX1_leftmost_1 : decode cX1_leftmost 1 = .ok (.istore_n 3, 1) := by decide +kernel
theorem dX1_leftmost_2 : decode cX1_leftmost 2 = .ok (.iconst 0, 1) := by decide +kernel
theorem dX1_leftmost_3 : decode cX1_leftmost 3 = .ok (.istore 4, 2) := by decide +kernel
theorem dX1_leftmost_5 : decode cX1_leftmost 5 = .ok (.iload 4, 2) := by decide +kernel
theorem dX1_leftmost_7 : decode cX1_leftmost 7 = .ok (.aload_n 1, 1) := by decide +kernel
theorem dX1_leftmost_8 : decode cX1_leftmost 8 = .ok (.getfield 24, 3) := by decide +kernel
theorem dX1_leftmost_11 : decode cX1_leftmost 11 = .ok (.if_icmp .ge 67, 3) := by decide +kernel
theorem dX1_leftmost_14 : decode cX1_leftmost 14 = .ok (.iload_n 3, 1) := by decide +kernel
theorem dX1_leftmost_15 : decode cX1_leftmost 15 = .ok (.iconst (-1), 1) := by decide +kernel
theorem dX1_leftmost_16 : decode cX1_leftmost 16 = .ok (.if_icmp .eq 19, 3) := by decide +kernel
theorem dX1_leftmost_19 : decode cX1_leftmost 19 = .ok (.aload_n 1, 1) := by decide +kernel
theorem dX1_leftmost_20 : decode cX1_leftmost 20 = .ok (.getfield 92, 3) := by decide +kernel
theorem dX1_leftmost_23 : decode cX1_leftmost 23 = .ok (.iload 4, 2) := by decide +kernel
theorem dX1_leftmost_25 : decode cX1_leftmost 25 = .ok (.iaload, 1) := by decide +kernel
theorem dX1_leftmost_26 : decode cX1_leftmost 26 = .ok (.aload_n 1, 1) := by decide +kernel
theorem dX1_leftmost_27 : decode cX1_leftmost 27 = .ok (.getfield 92, 3) := by decide +kernel
theorem dX1_leftmost_30 : decode cX1_leftmost 30 = .ok (.iload_n 3, 1) := by decide +kernel
theorem dX1_leftmost_31 : decode cX1_leftmost 31 = .ok (.iaload, 1) := by decide +kernel
theorem dX1_leftmost_32 : decode cX1_leftmost 32 = .ok (.if_icmp .ge 7, 3) := by decide +kernel
theorem dX1_leftmost_35 : decode cX1_leftmost 35 = .ok (.iconst 1, 1) := by decide +kernel
theorem dX1_leftmost_36 : decode cX1_leftmost 36 = .ok (.goto 4, 3) := by decide +kernel
theorem dX1_leftmost_39 : decode cX1_leftmost 39 = .ok (.iconst 0, 1) := by decide +kernel
theorem dX1_leftmost_40 : decode cX1_leftmost 40 = .ok (.istore 5, 2) := by decide +kernel
theorem dX1_leftmost_42 : decode cX1_leftmost 42 = .ok (.iload 5, 2) := by decide +kernel
theorem dX1_leftmost_44 : decode cX1_leftmost 44 = .ok (.ifCond .eq 28, 3) := by decide +kernel
theorem dX1_leftmost_47 : decode cX1_leftmost 47 = .ok (.aload_n 0, 1) := by decide +kernel
theorem dX1_leftmost_48 : decode cX1_leftmost 48 = .ok (.getfield 9, 3) := by decide +kernel
theorem dX1_leftmost_51 : decode cX1_leftmost 51 = .ok (.iload 4, 2) := by decide +kernel
theorem dX1_leftmost_53 : decode cX1_leftmost 53 = .ok (.iaload, 1) := by decide +kernel
theorem dX1_leftmost_54 : decode cX1_leftmost 54 = .ok (.iconst (-1), 1) := by decide +kernel
theorem dX1_leftmost_55 : decode cX1_leftmost 55 = .ok (.if_icmp .ne 17, 3) := by decide +kernel
theorem dX1_leftmost_58 : decode cX1_leftmost 58 = .ok (.aload_n 0, 1) := by decide +kernel
theorem dX1_leftmost_59 : decode cX1_leftmost 59 = .ok (.aload_n 1, 1) := by decide +kernel
theorem dX1_leftmost_60 : decode cX1_leftmost 60 = .ok (.iload 4, 2) := by decide +kernel
theorem dX1_leftmost_62 : decode cX1_leftmost 62 = .ok (.iload_n 2, 1) := by decide +kernel
theorem dX1_leftmost_63 : decode cX1_leftmost 63 = .ok (.invokevirtual 95, 3) := by decide +kernel
theorem dX1_leftmost_66 : decode cX1_leftmost 66 = .ok (.ifCond .eq 6, 3) := by decide +kernel
theorem dX1_leftmost_69 : decode cX1_leftmost 69 = .ok (.iload 4, 2) := by decide +kernel
theorem dX1_leftmost_71 : decode cX1_leftmost 71 = .ok (.istore_n 3, 1) := by decide +kernel
theorem dX1_leftmost_72 : decode cX1_leftmost 72 = .ok (.iinc 4 1, 3) := by decide +kernel
theorem dX1_leftmost_75 : decode cX1_leftmost 75 = .ok (.goto (-70), 3) := by decide +kernel
theorem dX1_leftmost_78 : decode cX1_leftmost 78 = .ok (.iload_n 3, 1) := by decide +kernel
theorem dX1_leftmost_79 : decode cX1_leftmost 79 = .ok (.ireturn, 1) := by decide +kernel
theorem dX1_fillTrack_0 : decode cX1_fillTrack 0 = .ok (.iconst 0, 1) := by decide +kernel
theorem dX1_fillTrack_1 : decode cX1_fillTrack 1 = .ok (.istore_n 3, 1) := by decide +kernel
theorem dX1_fillTrack_2 : decode cX1_fillTrack 2 = .ok (.iload_n 3, 1) := by decide +kernel
theorem dX1_fillTrack_3 : decode cX1_fillTrack 3 = .ok (.aload_n 1, 1) := by decide +kernel
theorem dX1_fillTrack_4 : decode cX1_fillTrack 4 = .ok (.getfield 24, 3) := by decide +kernel
theorem dX1_fillTrack_7 : decode cX1_fillTrack 7 = .ok (.if_icmp .ge 32, 3) := by decide +kernel
theorem dX1_fillTrack_10 : decode cX1_fillTrack 10 = .ok (.aload_n 0, 1) := by decide +kernel
theorem dX1_fillTrack_11 : decode cX1_fillTrack 11 = .ok (.aload_n 1, 1) := by decide +kernel
theorem dX1_fillTrack_12 : decode cX1_fillTrack 12 = .ok (.iload_n 2, 1) := by decide +kernel
theorem dX1_fillTrack_13 : decode cX1_fillTrack 13 = .ok (.invokevirtual 88, 3) := by decide +kernel
theorem dX1_fillTrack_16 : decode cX1_fillTrack 16 = .ok (.istore 4, 2) := by decide +kernel
theorem dX1_fillTrack_18 : decode cX1_fillTrack 18 = .ok (.iload 4, 2) := by decide +kernel
theorem dX1_fillTrack_20 : decode cX1_fillTrack 20 = .ok (.iconst (-1), 1) := by decide +kernel
theorem dX1_fillTrack_21 : decode cX1_fillTrack 21 = .ok (.if_icmp .ne 4, 3) := by decide +kernel
theorem dX1_fillTrack_24 : decode cX1_fillTrack 24 = .ok (.return_, 1) := by decide +kernel
theorem dX1_fillTrack_25 : decode cX1_fillTrack 25 = .ok (.aload_n 0, 1) := by decide +kernel
theorem dX1_fillTrack_26 : decode cX1_fillTrack 26 = .ok (.getfield 9, 3) := by decide +kernel
theorem dX1_fillTrack_29 : decode cX1_fillTrack 29 = .ok (.iload 4, 2) := by decide +kernel
theorem dX1_fillTrack_31 : decode cX1_fillTrack 31 = .ok (.iload_n 2, 1) := by decide +kernel
theorem dX1_fillTrack_32 : decode cX1_fillTrack 32 = .ok (.iastore, 1) := by decide +kernel
theorem dX1_fillTrack_33 : decode cX1_fillTrack 33 = .ok (.iinc 3 1, 3) := by decide +kernel
theorem dX1_fillTrack_36 : decode cX1_fillTrack 36 = .ok (.goto (-34), 3) := by decide +kernel
theorem dX1_fillTrack_39 : decode cX1_fillTrack 39 = .ok (.return_, 1) := by decide +kernel
theorem dX1_fillFromLeft_0 : decode cX1_fillFromLeft 0 = .ok (.aload_n 0, 1) := by decide +kernel
theorem dX1_fillFromLeft_1 : decode cX1_fillFromLeft 1 = .ok (.invokevirtual 15, 3) := by decide +kernel
theorem dX1_fillFromLeft_4 : decode cX1_fillFromLeft 4 = .ok (.iconst 0, 1) := by decide +kernel
theorem dX1_fillFromLeft_5 : decode cX1_fillFromLeft 5 = .ok (.istore_n 2, 1) := by decide +kernel
theorem dX1_fillFromLeft_6 : decode cX1_fillFromLeft 6 = .ok (.iload_n 2, 1) := by decide +kernel
theorem dX1_fillFromLeft_7 : decode cX1_fillFromLeft 7 = .ok (.bipush 14, 2) := by decide +kernel
theorem dX1_fillFromLeft_9 : decode cX1_fillFromLeft 9 = .ok (.if_icmp .ge 15, 3) := by decide +kernel
theorem dX1_fillFromLeft_12 : decode cX1_fillFromLeft 12 = .ok (.aload_n 0, 1) := by decide +kernel
theorem dX1_fillFromLeft_13 : decode cX1_fillFromLeft 13 = .ok (.aload_n 1, 1) := by decide +kernel
theorem dX1_fillFromLeft_14 : decode cX1_fillFromLeft 14 = .ok (.iload_n 2, 1) := by decide +kernel
theorem dX1_fillFromLeft_15 : decode cX1_fillFromLeft 15 = .ok (.invokevirtual 84, 3) := by decide +kernel
theorem dX1_fillFromLeft_18 : decode cX1_fillFromLeft 18 = .ok (.iinc 2 1, 3) := by decide +kernel
theorem dX1_fillFromLeft_21 : decode cX1_fillFromLeft 21 = .ok (.goto (-15), 3) := by decide +kernel
theorem dX1_fillFromLeft_24 : decode cX1_fillFromLeft 24 = .ok (.return_, 1) := by decide +kernel
theorem dX1_placeFrom_0 : decode cX1_placeFrom 0 = .ok (.iload_n 2, 1) := by decide +kernel
theorem dX1_placeFrom_1 : decode cX1_placeFrom 1 = .ok (.aload_n 1, 1) := by decide +kernel
theorem dX1_placeFrom_2 : decode cX1_placeFrom 2 = .ok (.getfield 24, 3) := by decide +kernel
theorem dX1_placeFrom_5 : decode cX1_placeFrom 5 = .ok (.if_icmp .ge 9, 3) := by decide +kernel
theorem dX1_placeFrom_8 : decode cX1_placeFrom 8 = .ok (.iload_n 2, 1) := by decide +kernel
theorem dX1_placeFrom_9 : decode cX1_placeFrom 9 = .ok (.bipush 8, 2) := by decide +kernel
theorem dX1_placeFrom_11 : decode cX1_placeFrom 11 = .ok (.if_icmp .lt 5, 3) := by decide +kernel
theorem dX1_placeFrom_14 : decode cX1_placeFrom 14 = .ok (.iconst 1, 1) := by decide +kernel
theorem dX1_placeFrom_15 : decode cX1_placeFrom 15 = .ok (.ireturn, 1) := by decide +kernel
theorem dX1_placeFrom_16 : decode cX1_placeFrom 16 = .ok (.aload_n 1, 1) := by decide +kernel
theorem dX1_placeFrom_17 : decode cX1_placeFrom 17 = .ok (.getfield 102, 3) := by decide +kernel
theorem dX1_placeFrom_20 : decode cX1_placeFrom 20 = .ok (.iload_n 2, 1) := by decide +kernel
theorem dX1_placeFrom_21 : decode cX1_placeFrom 21 = .ok (.iaload, 1) := by decide +kernel
theorem dX1_placeFrom_22 : decode cX1_placeFrom 22 = .ok (.istore 4, 2) := by decide +kernel
theorem dX1_placeFrom_24 : decode cX1_placeFrom 24 = .ok (.iload 4, 2) := by decide +kernel
theorem dX1_placeFrom_26 : decode cX1_placeFrom 26 = .ok (.iload_n 3, 1) := by decide +kernel
theorem dX1_placeFrom_27 : decode cX1_placeFrom 27 = .ok (.aload_n 1, 1) := by decide +kernel
theorem dX1_placeFrom_28 : decode cX1_placeFrom 28 = .ok (.getfield 105, 3) := by decide +kernel
theorem dX1_placeFrom_31 : decode cX1_placeFrom 31 = .ok (.iload_n 2, 1) := by decide +kernel
theorem dX1_placeFrom_32 : decode cX1_placeFrom 32 = .ok (.iaload, 1) := by decide +kernel
theorem dX1_placeFrom_33 : decode cX1_placeFrom 33 = .ok (.isub, 1) := by decide +kernel
theorem dX1_placeFrom_34 : decode cX1_placeFrom 34 = .ok (.if_icmp .ge 40, 3) := by decide +kernel
theorem dX1_placeFrom_37 : decode cX1_placeFrom 37 = .ok (.aload_n 0, 1) := by decide +kernel
theorem dX1_placeFrom_38 : decode cX1_placeFrom 38 = .ok (.getfield 9, 3) := by decide +kernel
theorem dX1_placeFrom_41 : decode cX1_placeFrom 41 = .ok (.iload_n 2, 1) := by decide +kernel
theorem dX1_placeFrom_42 : decode cX1_placeFrom 42 = .ok (.iload 4, 2) := by decide +kernel
theorem dX1_placeFrom_44 : decode cX1_placeFrom 44 = .ok (.iastore, 1) := by decide +kernel
theorem dX1_placeFrom_45 : decode cX1_placeFrom 45 = .ok (.aload_n 0, 1) := by decide +kernel
theorem dX1_placeFrom_46 : decode cX1_placeFrom 46 = .ok (.aload_n 1, 1) := by decide +kernel
theorem dX1_placeFrom_47 : decode cX1_placeFrom 47 = .ok (.iload_n 2, 1) := by decide +kernel
theorem dX1_placeFrom_48 : decode cX1_placeFrom 48 = .ok (.invokevirtual 30, 3) := by decide +kernel
theorem dX1_placeFrom_51 : decode cX1_placeFrom 51 = .ok (.ifCond .eq 17, 3) := by decide +kernel
theorem dX1_placeFrom_54 : decode cX1_placeFrom 54 = .ok (.aload_n 0, 1) := by decide +kernel
theorem dX1_placeFrom_55 : decode cX1_placeFrom 55 = .ok (.aload_n 1, 1) := by decide +kernel
theorem dX1_placeFrom_56 : decode cX1_placeFrom 56 = .ok (.iload_n 2, 1) := by decide +kernel
theorem dX1_placeFrom_57 : decode cX1_placeFrom 57 = .ok (.iconst 1, 1) := by decide +kernel
theorem dX1_placeFrom_58 : decode cX1_placeFrom 58 = .ok (.iadd, 1) := by decide +kernel
theorem dX1_placeFrom_59 : decode cX1_placeFrom 59 = .ok (.iload_n 3, 1) := by decide +kernel
theorem dX1_placeFrom_60 : decode cX1_placeFrom 60 = .ok (.invokevirtual 99, 3) := by decide +kernel
theorem dX1_placeFrom_63 : decode cX1_placeFrom 63 = .ok (.ifCond .eq 5, 3) := by decide +kernel
theorem dX1_placeFrom_66 : decode cX1_placeFrom 66 = .ok (.iconst 1, 1) := by decide +kernel
theorem dX1_placeFrom_67 : decode cX1_placeFrom 67 = .ok (.ireturn, 1) := by decide +kernel
theorem dX1_placeFrom_68 : decode cX1_placeFrom 68 = .ok (.iinc 4 1, 3) := by decide +kernel
theorem dX1_placeFrom_71 : decode cX1_placeFrom 71 = .ok (.goto (-47), 3) := by decide +kernel
theorem dX1_placeFrom_74 : decode cX1_placeFrom 74 = .ok (.aload_n 0, 1) := by decide +kernel
theorem dX1_placeFrom_75 : decode cX1_placeFrom 75 = .ok (.getfield 9, 3) := by decide +kernel
theorem dX1_placeFrom_78 : decode cX1_placeFrom 78 = .ok (.iload_n 2, 1) := by decide +kernel
theorem dX1_placeFrom_79 : decode cX1_placeFrom 79 = .ok (.iconst (-1), 1) := by decide +kernel
theorem dX1_placeFrom_80 : decode cX1_placeFrom 80 = .ok (.iastore, 1) := by decide +kernel
theorem dX1_placeFrom_81 : decode cX1_placeFrom 81 = .ok (.iconst 0, 1) := by decide +kernel
theorem dX1_placeFrom_82 : decode cX1_placeFrom 82 = .ok (.ireturn, 1) := by decide +kernel
theorem dX1_fillBest_0 : decode cX1_fillBest 0 = .ok (.aload_n 0, 1) := by decide +kernel
theorem dX1_fillBest_1 : decode cX1_fillBest 1 = .ok (.invokevirtual 15, 3) := by decide +kernel
theorem dX1_fillBest_4 : decode cX1_fillBest 4 = .ok (.iload_n 2, 1) := by decide +kernel
theorem dX1_fillBest_5 : decode cX1_fillBest 5 = .ok (.istore_n 3, 1) := by decide +kernel
theorem dX1_fillBest_6 : decode cX1_fillBest 6 = .ok (.iload_n 3, 1) := by decide +kernel
theorem dX1_fillBest_7 : decode cX1_fillBest 7 = .ok (.aload_n 1, 1) := by decide +kernel
theorem dX1_fillBest_8 : decode cX1_fillBest 8 = .ok (.getfield 24, 3) := by decide +kernel
theorem dX1_fillBest_11 : decode cX1_fillBest 11 = .ok (.if_icmp .gt 20, 3) := by decide +kernel
theorem dX1_fillBest_14 : decode cX1_fillBest 14 = .ok (.aload_n 0, 1) := by decide +kernel
theorem dX1_fillBest_15 : decode cX1_fillBest 15 = .ok (.aload_n 1, 1) := by decide +kernel
theorem dX1_fillBest_16 : decode cX1_fillBest 16 = .ok (.iconst 0, 1) := by decide +kernel
theorem dX1_fillBest_17 : decode cX1_fillBest 17 = .ok (.iload_n 3, 1) := by decide +kernel
theorem dX1_fillBest_18 : decode cX1_fillBest 18 = .ok (.invokevirtual 99, 3) := by decide +kernel
theorem dX1_fillBest_21 : decode cX1_fillBest 21 = .ok (.ifCond .eq 4, 3) := by decide +kernel
theorem dX1_fillBest_24 : decode cX1_fillBest 24 = .ok (.return_, 1) := by decide +kernel
theorem dX1_fillBest_25 : decode cX1_fillBest 25 = .ok (.iinc 3 1, 3) := by decide +kernel
theorem dX1_fillBest_28 : decode cX1_fillBest 28 = .ok (.goto (-22), 3) := by decide +kernel
theorem dX1_fillBest_31 : decode cX1_fillBest 31 = .ok (.return_, 1) := by decide +kernel
theorem dX3_hasCycle_0 : decode cX3_hasCycle 0 = .ok (.aload_n 0, 1) := by decide +kernel
theorem dX3_hasCycle_1 : decode cX3_hasCycle 1 = .ok (.getfield 80, 3) := by decide +kernel
theorem dX3_hasCycle_4 : decode cX3_hasCycle 4 = .ok (.iconst (-1), 1) := by decide +kernel
theorem dX3_hasCycle_5 : decode cX3_hasCycle 5 = .ok (.if_icmp .ne 7, 3) := by decide +kernel
theorem dX3_hasCycle_8 : decode cX3_hasCycle 8 = .ok (.iconst 1, 1) := by decide +kernel
theorem dX3_hasCycle_9 : decode cX3_hasCycle 9 = .ok (.goto 4, 3) := by decide +kernel
theorem dX3_hasCycle_12 : decode cX3_hasCycle 12 = .ok (.iconst 0, 1) := by decide +kernel
theorem dX3_hasCycle_13 : decode cX3_hasCycle 13 = .ok (.ireturn, 1) := by decide +kernel
theorem dX3_belowAny_0 : decode cX3_belowAny 0 = .ok (.iconst 0, 1) := by decide +kernel
theorem dX3_belowAny_1 : decode cX3_belowAny 1 = .ok (.istore_n 2, 1) := by decide +kernel
theorem dX3_belowAny_2 : decode cX3_belowAny 2 = .ok (.iconst 0, 1) := by decide +kernel
theorem dX3_belowAny_3 : decode cX3_belowAny 3 = .ok (.istore_n 3, 1) := by decide +kernel
theorem dX3_belowAny_4 : decode cX3_belowAny 4 = .ok (.iload_n 3, 1) := by decide +kernel
theorem dX3_belowAny_5 : decode cX3_belowAny 5 = .ok (.aload_n 0, 1) := by decide +kernel
theorem dX3_belowAny_6 : decode cX3_belowAny 6 = .ok (.getfield 36, 3) := by decide +kernel
theorem dX3_belowAny_9 : decode cX3_belowAny 9 = .ok (.if_icmp .ge 26, 3) := by decide +kernel
theorem dX3_belowAny_12 : decode cX3_belowAny 12 = .ok (.iload_n 1, 1) := by decide +kernel
theorem dX3_belowAny_13 : decode cX3_belowAny 13 = .ok (.iconst 1, 1) := by decide +kernel
theorem dX3_belowAny_14 : decode cX3_belowAny 14 = .ok (.iload_n 3, 1) := by decide +kernel
theorem dX3_belowAny_15 : decode cX3_belowAny 15 = .ok (.ishl, 1) := by decide +kernel
theorem dX3_belowAny_16 : decode cX3_belowAny 16 = .ok (.iand, 1) := by decide +kernel
theorem dX3_belowAny_17 : decode cX3_belowAny 17 = .ok (.ifCond .eq 12, 3) := by decide +kernel
theorem dX3_belowAny_20 : decode cX3_belowAny 20 = .ok (.iload_n 2, 1) := by decide +kernel
theorem dX3_belowAny_21 : decode cX3_belowAny 21 = .ok (.aload_n 0, 1) := by decide +kernel
theorem dX3_belowAny_22 : decode cX3_belowAny 22 = .ok (.getfield 21, 3) := by decide +kernel
theorem dX3_belowAny_25 : decode cX3_belowAny 25 = .ok (.iload_n 3, 1) := by decide +kernel
theorem dX3_belowAny_26 : decode cX3_belowAny 26 = .ok (.iaload, 1) := by decide +kernel
theorem dX3_belowAny_27 : decode cX3_belowAny 27 = .ok (.ior, 1) := by decide +kernel
theorem dX3_belowAny_28 : decode cX3_belowAny 28 = .ok (.istore_n 2, 1) := by decide +kernel
theorem dX3_belowAny_29 : decode cX3_belowAny 29 = .ok (.iinc 3 1, 3) := by decide +kernel
theorem dX3_belowAny_32 : decode cX3_belowAny 32 = .ok (.goto (-28), 3) := by decide +kernel
theorem dX3_belowAny_35 : decode cX3_belowAny 35 = .ok (.iload_n 2, 1) := by decide +kernel
theorem dX3_belowAny_36 : decode cX3_belowAny 36 = .ok (.ireturn, 1) := by decide +kernel
theorem dX3_steps_0 : decode cX3_steps 0 = .ok (.aload_n 0, 1) := by decide +kernel
theorem dX3_steps_1 : decode cX3_steps 1 = .ok (.getfield 21, 3) := by decide +kernel
theorem dX3_steps_4 : decode cX3_steps 4 = .ok (.iload_n 1, 1) := by decide +kernel
theorem dX3_steps_5 : decode cX3_steps 5 = .ok (.iaload, 1) := by decide +kernel
theorem dX3_steps_6 : decode cX3_steps 6 = .ok (.istore_n 3, 1) := by decide +kernel
theorem dX3_steps_7 : decode cX3_steps 7 = .ok (.iconst 1, 1) := by decide +kernel
theorem dX3_steps_8 : decode cX3_steps 8 = .ok (.istore 4, 2) := by decide +kernel
theorem dX3_steps_10 : decode cX3_steps 10 = .ok (.iload 4, 2) := by decide +kernel
theorem dX3_steps_12 : decode cX3_steps 12 = .ok (.aload_n 0, 1) := by decide +kernel
theorem dX3_steps_13 : decode cX3_steps 13 = .ok (.getfield 36, 3) := by decide +kernel
theorem dX3_steps_16 : decode cX3_steps 16 = .ok (.if_icmp .gt 28, 3) := by decide +kernel
theorem dX3_steps_19 : decode cX3_steps 19 = .ok (.iload_n 3, 1) := by decide +kernel
theorem dX3_steps_20 : decode cX3_steps 20 = .ok (.iconst 1, 1) := by decide +kernel
theorem dX3_steps_21 : decode cX3_steps 21 = .ok (.iload_n 2, 1) := by decide +kernel
theorem dX3_steps_22 : decode cX3_steps 22 = .ok (.ishl, 1) := by decide +kernel
theorem dX3_steps_23 : decode cX3_steps 23 = .ok (.iand, 1) := by decide +kernel
theorem dX3_steps_24 : decode cX3_steps 24 = .ok (.ifCond .eq 6, 3) := by decide +kernel
theorem dX3_steps_27 : decode cX3_steps 27 = .ok (.iload 4, 2) := by decide +kernel
theorem dX3_steps_29 : decode cX3_steps 29 = .ok (.ireturn, 1) := by decide +kernel
theorem dX3_steps_30 : decode cX3_steps 30 = .ok (.iload_n 3, 1) := by decide +kernel
theorem dX3_steps_31 : decode cX3_steps 31 = .ok (.aload_n 0, 1) := by decide +kernel
theorem dX3_steps_32 : decode cX3_steps 32 = .ok (.iload_n 3, 1) := by decide +kernel
theorem dX3_steps_33 : decode cX3_steps 33 = .ok (.invokevirtual 95, 3) := by decide +kernel
theorem dX3_steps_36 : decode cX3_steps 36 = .ok (.ior, 1) := by decide +kernel
theorem dX3_steps_37 : decode cX3_steps 37 = .ok (.istore_n 3, 1) := by decide +kernel
theorem dX3_steps_38 : decode cX3_steps 38 = .ok (.iinc 4 1, 3) := by decide +kernel
theorem dX3_steps_41 : decode cX3_steps 41 = .ok (.goto (-31), 3) := by decide +kernel
theorem dX3_steps_44 : decode cX3_steps 44 = .ok (.iconst (-1), 1) := by decide +kernel
theorem dX3_steps_45 : decode cX3_steps 45 = .ok (.ireturn, 1) := by decide +kernel
theorem dX2_startOfShortest_0 : decode cX2_startOfShortest 0 = .ok (.iconst (-1), 1) := by decide +kernel
theorem dX2_startOfShortest_1 : decode cX2_startOfShortest 1 = .ok (.istore_n 1, 1) := by decide +kernel
theorem dX2_startOfShortest_2 : decode cX2_startOfShortest 2 = .ok (.aload_n 0, 1) := by decide +kernel
theorem dX2_startOfShortest_3 : decode cX2_startOfShortest 3 = .ok (.invokevirtual 33, 3) := by decide +kernel
theorem dX2_startOfShortest_6 : decode cX2_startOfShortest 6 = .ok (.ifCond .ne 5, 3) := by decide +kernel
theorem dX2_startOfShortest_9 : decode cX2_startOfShortest 9 = .ok (.iload_n 1, 1) := by decide +kernel
theorem dX2_startOfShortest_10 : decode cX2_startOfShortest 10 = .ok (.ireturn, 1) := by decide +kernel
theorem dX2_startOfShortest_11 : decode cX2_startOfShortest 11 = .ok (.aload_n 0, 1) := by decide +kernel
theorem dX2_startOfShortest_12 : decode cX2_startOfShortest 12 = .ok (.getfield 37, 3) := by decide +kernel
theorem dX2_startOfShortest_15 : decode cX2_startOfShortest 15 = .ok (.iconst 1, 1) := by decide +kernel
theorem dX2_startOfShortest_16 : decode cX2_startOfShortest 16 = .ok (.iadd, 1) := by decide +kernel
theorem dX2_startOfShortest_17 : decode cX2_startOfShortest 17 = .ok (.istore_n 2, 1) := by decide +kernel
theorem dX2_startOfShortest_18 : decode cX2_startOfShortest 18 = .ok (.iconst 0, 1) := by decide +kernel
theorem dX2_startOfShortest_19 : decode cX2_startOfShortest 19 = .ok (.istore_n 3, 1) := by decide +kernel
theorem dX2_startOfShortest_20 : decode cX2_startOfShortest 20 = .ok (.iload_n 3, 1) := by decide +kernel
theorem dX2_startOfShortest_21 : decode cX2_startOfShortest 21 = .ok (.aload_n 0, 1) := by decide +kernel
theorem dX2_startOfShortest_22 : decode cX2_startOfShortest 22 = .ok (.getfield 37, 3) := by decide +kernel
theorem dX2_startOfShortest_25 : decode cX2_startOfShortest 25 = .ok (.if_icmp .ge 34, 3) := by decide +kernel
theorem dX2_startOfShortest_28 : decode cX2_startOfShortest 28 = .ok (.aload_n 0, 1) := by decide +kernel
theorem dX2_startOfShortest_29 : decode cX2_startOfShortest 29 = .ok (.iload_n 3, 1) := by decide +kernel
theorem dX2_startOfShortest_30 : decode cX2_startOfShortest 30 = .ok (.iload_n 3, 1) := by decide +kernel
theorem dX2_startOfShortest_31 : decode cX2_startOfShortest 31 = .ok (.invokevirtual 23, 3) := by decide +kernel
theorem dX2_startOfShortest_34 : decode cX2_startOfShortest 34 = .ok (.istore 4, 2) := by decide +kernel
theorem dX2_startOfShortest_36 : decode cX2_startOfShortest 36 = .ok (.iload 4, 2) := by decide +kernel
theorem dX2_startOfShortest_38 : decode cX2_startOfShortest 38 = .ok (.iconst (-1), 1) := by decide +kernel
theorem dX2_startOfShortest_39 : decode cX2_startOfShortest 39 = .ok (.if_icmp .eq 14, 3) := by decide +kernel
theorem dX2_startOfShortest_42 : decode cX2_startOfShortest 42 = .ok (.iload 4, 2) := by decide +kernel
theorem dX2_startOfShortest_44 : decode cX2_startOfShortest 44 = .ok (.iload_n 2, 1) := by decide +kernel
theorem dX2_startOfShortest_45 : decode cX2_startOfShortest 45 = .ok (.if_icmp .ge 8, 3) := by decide +kernel
theorem dX2_startOfShortest_48 : decode cX2_startOfShortest 48 = .ok (.iload_n 3, 1) := by decide +kernel
theorem dX2_startOfShortest_49 : decode cX2_startOfShortest 49 = .ok (.istore_n 1, 1) := by decide +kernel
theorem dX2_startOfShortest_50 : decode cX2_startOfShortest 50 = .ok (.iload 4, 2) := by decide +kernel
theorem dX2_startOfShortest_52 : decode cX2_startOfShortest 52 = .ok (.istore_n 2, 1) := by decide +kernel
theorem dX2_startOfShortest_53 : decode cX2_startOfShortest 53 = .ok (.iinc 3 1, 3) := by decide +kernel
theorem dX2_startOfShortest_56 : decode cX2_startOfShortest 56 = .ok (.goto (-36), 3) := by decide +kernel
theorem dX2_startOfShortest_59 : decode cX2_startOfShortest 59 = .ok (.iload_n 1, 1) := by decide +kernel
theorem dX2_startOfShortest_60 : decode cX2_startOfShortest 60 = .ok (.ireturn, 1) := by decide +kernel
theorem dX2_next_0 : decode cX2_next 0 = .ok (.iconst 0, 1) := by decide +kernel
theorem dX2_next_1 : decode cX2_next 1 = .ok (.istore 4, 2) := by decide +kernel
theorem dX2_next_3 : decode cX2_next 3 = .ok (.iload 4, 2) := by decide +kernel
theorem dX2_next_5 : decode cX2_next 5 = .ok (.aload_n 0, 1) := by decide +kernel
theorem dX2_next_6 : decode cX2_next 6 = .ok (.getfield 37, 3) := by decide +kernel
theorem dX2_next_9 : decode cX2_next 9 = .ok (.if_icmp .ge 33, 3) := by decide +kernel
theorem dX2_next_12 : decode cX2_next 12 = .ok (.aload_n 0, 1) := by decide +kernel
theorem dX2_next_13 : decode cX2_next 13 = .ok (.iload_n 1, 1) := by decide +kernel
theorem dX2_next_14 : decode cX2_next 14 = .ok (.iload 4, 2) := by decide +kernel
theorem dX2_next_16 : decode cX2_next 16 = .ok (.invokevirtual 40, 3) := by decide +kernel
theorem dX2_next_19 : decode cX2_next 19 = .ok (.ifCond .eq 17, 3) := by decide +kernel
theorem dX2_next_22 : decode cX2_next 22 = .ok (.aload_n 0, 1) := by decide +kernel
theorem dX2_next_23 : decode cX2_next 23 = .ok (.iload 4, 2) := by decide +kernel
theorem dX2_next_25 : decode cX2_next 25 = .ok (.iload_n 2, 1) := by decide +kernel
theorem dX2_next_26 : decode cX2_next 26 = .ok (.invokevirtual 23, 3) := by decide +kernel
theorem dX2_next_29 : decode cX2_next 29 = .ok (.iload_n 3, 1) := by decide +kernel
theorem dX2_next_30 : decode cX2_next 30 = .ok (.if_icmp .ne 6, 3) := by decide +kernel
theorem dX2_next_33 : decode cX2_next 33 = .ok (.iload 4, 2) := by decide +kernel
theorem dX2_next_35 : decode cX2_next 35 = .ok (.ireturn, 1) := by decide +kernel
theorem dX2_next_36 : decode cX2_next 36 = .ok (.iinc 4 1, 3) := by decide +kernel
theorem dX2_next_39 : decode cX2_next 39 = .ok (.goto (-36), 3) := by decide +kernel
theorem dX2_next_42 : decode cX2_next 42 = .ok (.iconst (-1), 1) := by decide +kernel
theorem dX2_next_43 : decode cX2_next 43 = .ok (.ireturn, 1) := by decide +kernel
theorem dX2_find_0 : decode cX2_find 0 = .ok (.aload_n 0, 1) := by decide +kernel
theorem dX2_find_1 : decode cX2_find 1 = .ok (.iconst 0, 1) := by decide +kernel
theorem dX2_find_2 : decode cX2_find 2 = .ok (.putfield 15, 3) := by decide +kernel
theorem dX2_find_5 : decode cX2_find 5 = .ok (.aload_n 1, 1) := by decide +kernel
theorem dX2_find_6 : decode cX2_find 6 = .ok (.invokestatic 19, 3) := by decide +kernel
theorem dX2_find_9 : decode cX2_find 9 = .ok (.istore_n 2, 1) := by decide +kernel
theorem dX2_find_10 : decode cX2_find 10 = .ok (.iload_n 2, 1) := by decide +kernel
theorem dX2_find_11 : decode cX2_find 11 = .ok (.iconst (-1), 1) := by decide +kernel
theorem dX2_find_12 : decode cX2_find 12 = .ok (.if_icmp .ne 4, 3) := by decide +kernel
theorem dX2_find_15 : decode cX2_find 15 = .ok (.return_, 1) := by decide +kernel
theorem dX2_find_16 : decode cX2_find 16 = .ok (.aload_n 1, 1) := by decide +kernel
theorem dX2_find_17 : decode cX2_find 17 = .ok (.iload_n 2, 1) := by decide +kernel
theorem dX2_find_18 : decode cX2_find 18 = .ok (.iload_n 2, 1) := by decide +kernel
theorem dX2_find_19 : decode cX2_find 19 = .ok (.invokevirtual 23, 3) := by decide +kernel
theorem dX2_find_22 : decode cX2_find 22 = .ok (.istore_n 3, 1) := by decide +kernel
theorem dX2_find_23 : decode cX2_find 23 = .ok (.iload_n 2, 1) := by decide +kernel
theorem dX2_find_24 : decode cX2_find 24 = .ok (.istore 4, 2) := by decide +kernel
theorem dX2_find_26 : decode cX2_find 26 = .ok (.iload 4, 2) := by decide +kernel
theorem dX2_find_28 : decode cX2_find 28 = .ok (.iconst (-1), 1) := by decide +kernel
theorem dX2_find_29 : decode cX2_find 29 = .ok (.if_icmp .eq 59, 3) := by decide +kernel
theorem dX2_find_32 : decode cX2_find 32 = .ok (.aload_n 0, 1) := by decide +kernel
theorem dX2_find_33 : decode cX2_find 33 = .ok (.getfield 15, 3) := by decide +kernel
theorem dX2_find_36 : decode cX2_find 36 = .ok (.iload_n 3, 1) := by decide +kernel
theorem dX2_find_37 : decode cX2_find 37 = .ok (.if_icmp .ge 51, 3) := by decide +kernel
theorem dX2_find_40 : decode cX2_find 40 = .ok (.aload_n 0, 1) := by decide +kernel
theorem dX2_find_41 : decode cX2_find 41 = .ok (.getfield 15, 3) := by decide +kernel
theorem dX2_find_44 : decode cX2_find 44 = .ok (.bipush 14, 2) := by decide +kernel
theorem dX2_find_46 : decode cX2_find 46 = .ok (.if_icmp .ge 42, 3) := by decide +kernel
theorem dX2_find_49 : decode cX2_find 49 = .ok (.aload_n 0, 1) := by decide +kernel
theorem dX2_find_50 : decode cX2_find 50 = .ok (.getfield 9, 3) := by decide +kernel
theorem dX2_find_53 : decode cX2_find 53 = .ok (.aload_n 0, 1) := by decide +kernel
theorem dX2_find_54 : decode cX2_find 54 = .ok (.getfield 15, 3) := by decide +kernel
theorem dX2_find_57 : decode cX2_find 57 = .ok (.iload 4, 2) := by decide +kernel
theorem dX2_find_59 : decode cX2_find 59 = .ok (.iastore, 1) := by decide +kernel
theorem dX2_find_60 : decode cX2_find 60 = .ok (.aload_n 0, 1) := by decide +kernel
theorem dX2_find_61 : decode cX2_find 61 = .ok (.dup, 1) := by decide +kernel
theorem dX2_find_62 : decode cX2_find 62 = .ok (.getfield 15, 3) := by decide +kernel
theorem dX2_find_65 : decode cX2_find 65 = .ok (.iconst 1, 1) := by decide +kernel
theorem dX2_find_66 : decode cX2_find 66 = .ok (.iadd, 1) := by decide +kernel
theorem dX2_find_67 : decode cX2_find 67 = .ok (.putfield 15, 3) := by decide +kernel
theorem dX2_find_70 : decode cX2_find 70 = .ok (.aload_n 1, 1) := by decide +kernel
theorem dX2_find_71 : decode cX2_find 71 = .ok (.iload 4, 2) := by decide +kernel
theorem dX2_find_73 : decode cX2_find 73 = .ok (.iload_n 2, 1) := by decide +kernel
theorem dX2_find_74 : decode cX2_find 74 = .ok (.iload_n 3, 1) := by decide +kernel
theorem dX2_find_75 : decode cX2_find 75 = .ok (.aload_n 0, 1) := by decide +kernel
theorem dX2_find_76 : decode cX2_find 76 = .ok (.getfield 15, 3) := by decide +kernel
theorem dX2_find_79 : decode cX2_find 79 = .ok (.isub, 1) := by decide +kernel
theorem dX2_find_80 : decode cX2_find 80 = .ok (.invokestatic 29, 3) := by decide +kernel
theorem dX2_find_83 : decode cX2_find 83 = .ok (.istore 4, 2) := by decide +kernel
theorem dX2_find_85 : decode cX2_find 85 = .ok (.goto (-59), 3) := by decide +kernel
theorem dX2_find_88 : decode cX2_find 88 = .ok (.return_, 1) := by decide +kernel
theorem dX3_freeOf_0 : decode cX3_freeOf 0 = .ok (.iconst 0, 1) := by decide +kernel
theorem dX3_freeOf_1 : decode cX3_freeOf 1 = .ok (.istore_n 3, 1) := by decide +kernel
theorem dX3_freeOf_2 : decode cX3_freeOf 2 = .ok (.iconst 0, 1) := by decide +kernel
theorem dX3_freeOf_3 : decode cX3_freeOf 3 = .ok (.istore 4, 2) := by decide +kernel
theorem dX3_freeOf_5 : decode cX3_freeOf 5 = .ok (.iload 4, 2) := by decide +kernel
theorem dX3_freeOf_7 : decode cX3_freeOf 7 = .ok (.aload_n 0, 1) := by decide +kernel
theorem dX3_freeOf_8 : decode cX3_freeOf 8 = .ok (.getfield 36, 3) := by decide +kernel
theorem dX3_freeOf_11 : decode cX3_freeOf 11 = .ok (.if_icmp .ge 34, 3) := by decide +kernel
theorem dX3_freeOf_14 : decode cX3_freeOf 14 = .ok (.iload_n 2, 1) := by decide +kernel
theorem dX3_freeOf_15 : decode cX3_freeOf 15 = .ok (.iconst 1, 1) := by decide +kernel
theorem dX3_freeOf_16 : decode cX3_freeOf 16 = .ok (.iload 4, 2) := by decide +kernel
theorem dX3_freeOf_18 : decode cX3_freeOf 18 = .ok (.ishl, 1) := by decide +kernel
theorem dX3_freeOf_19 : decode cX3_freeOf 19 = .ok (.iand, 1) := by decide +kernel
theorem dX3_freeOf_20 : decode cX3_freeOf 20 = .ok (.ifCond .eq 19, 3) := by decide +kernel
theorem dX3_freeOf_23 : decode cX3_freeOf 23 = .ok (.aload_n 1, 1) := by decide +kernel
theorem dX3_freeOf_24 : decode cX3_freeOf 24 = .ok (.iload 4, 2) := by decide +kernel
theorem dX3_freeOf_26 : decode cX3_freeOf 26 = .ok (.iaload, 1) := by decide +kernel
theorem dX3_freeOf_27 : decode cX3_freeOf 27 = .ok (.iload_n 2, 1) := by decide +kernel
theorem dX3_freeOf_28 : decode cX3_freeOf 28 = .ok (.iand, 1) := by decide +kernel
theorem dX3_freeOf_29 : decode cX3_freeOf 29 = .ok (.ifCond .ne 10, 3) := by decide +kernel
theorem dX3_freeOf_32 : decode cX3_freeOf 32 = .ok (.iload_n 3, 1) := by decide +kernel
theorem dX3_freeOf_33 : decode cX3_freeOf 33 = .ok (.iconst 1, 1) := by decide +kernel
theorem dX3_freeOf_34 : decode cX3_freeOf 34 = .ok (.iload 4, 2) := by decide +kernel
theorem dX3_freeOf_36 : decode cX3_freeOf 36 = .ok (.ishl, 1) := by decide +kernel
theorem dX3_freeOf_37 : decode cX3_freeOf 37 = .ok (.ior, 1) := by decide +kernel
theorem dX3_freeOf_38 : decode cX3_freeOf 38 = .ok (.istore_n 3, 1) := by decide +kernel
theorem dX3_freeOf_39 : decode cX3_freeOf 39 = .ok (.iinc 4 1, 3) := by decide +kernel
theorem dX3_freeOf_42 : decode cX3_freeOf 42 = .ok (.goto (-37), 3) := by decide +kernel
theorem dX3_freeOf_45 : decode cX3_freeOf 45 = .ok (.iload_n 3, 1) := by decide +kernel
theorem dX3_freeOf_46 : decode cX3_freeOf 46 = .ok (.ireturn, 1) := by decide +kernel
theorem dX3_giveRank_0 : decode cX3_giveRank 0 = .ok (.iconst 0, 1) := by decide +kernel
theorem dX3_giveRank_1 : decode cX3_giveRank 1 = .ok (.istore 4, 2) := by decide +kernel
theorem dX3_giveRank_3 : decode cX3_giveRank 3 = .ok (.iload 4, 2) := by decide +kernel
theorem dX3_giveRank_5 : decode cX3_giveRank 5 = .ok (.aload_n 0, 1) := by decide +kernel
theorem dX3_giveRank_6 : decode cX3_giveRank 6 = .ok (.getfield 36, 3) := by decide +kernel
theorem dX3_giveRank_9 : decode cX3_giveRank 9 = .ok (.if_icmp .ge 23, 3) := by decide +kernel
theorem dX3_giveRank_12 : decode cX3_giveRank 12 = .ok (.iload_n 2, 1) := by decide +kernel
theorem dX3_giveRank_13 : decode cX3_giveRank 13 = .ok (.iconst 1, 1) := by decide +kernel
theorem dX3_giveRank_14 : decode cX3_giveRank 14 = .ok (.iload 4, 2) := by decide +kernel
theorem dX3_giveRank_16 : decode cX3_giveRank 16 = .ok (.ishl, 1) := by decide +kernel
theorem dX3_giveRank_17 : decode cX3_giveRank 17 = .ok (.iand, 1) := by decide +kernel
theorem dX3_giveRank_18 : decode cX3_giveRank 18 = .ok (.ifCond .eq 8, 3) := by decide +kernel
theorem dX3_giveRank_21 : decode cX3_giveRank 21 = .ok (.aload_n 1, 1) := by decide +kernel
theorem dX3_giveRank_22 : decode cX3_giveRank 22 = .ok (.iload 4, 2) := by decide +kernel
theorem dX3_giveRank_24 : decode cX3_giveRank 24 = .ok (.iload_n 3, 1) := by decide +kernel
theorem dX3_giveRank_25 : decode cX3_giveRank 25 = .ok (.iastore, 1) := by decide +kernel
theorem dX3_giveRank_26 : decode cX3_giveRank 26 = .ok (.iinc 4 1, 3) := by decide +kernel
theorem dX3_giveRank_29 : decode cX3_giveRank 29 = .ok (.goto (-26), 3) := by decide +kernel
theorem dX3_giveRank_32 : decode cX3_giveRank 32 = .ok (.return_, 1) := by decide +kernel
theorem dX3_rank_0 : decode cX3_rank 0 = .ok (.iconst 1, 1) := by decide +kernel
theorem dX3_rank_1 : decode cX3_rank 1 = .ok (.aload_n 0, 1) := by decide +kernel
theorem dX3_rank_2 : decode cX3_rank 2 = .ok (.getfield 36, 3) := by decide +kernel
theorem dX3_rank_5 : decode cX3_rank 5 = .ok (.ishl, 1) := by decide +kernel
end
section
theorem dX3_rank_6 : decode cX3_rank 6 = .ok (.iconst 1, 1) := by decide +kernel
theorem dX3_rank_7 : decode cX3_rank 7 = .ok (.isub, 1) := by decide +kernel
theorem dX3_rank_8 : decode cX3_rank 8 = .ok (.istore_n 3, 1) := by decide +kernel
theorem dX3_rank_9 : decode cX3_rank 9 = .ok (.iconst 0, 1) := by decide +kernel
theorem dX3_rank_10 : decode cX3_rank 10 = .ok (.istore 4, 2) := by decide +kernel
theorem dX3_rank_12 : decode cX3_rank 12 = .ok (.iload_n 3, 1) := by decide +kernel
theorem dX3_rank_13 : decode cX3_rank 13 = .ok (.ifCond .eq 42, 3) := by decide +kernel
theorem dX3_rank_16 : decode cX3_rank 16 = .ok (.iload 4, 2) := by decide +kernel
theorem dX3_rank_18 : decode cX3_rank 18 = .ok (.aload_n 0, 1) := by decide +kernel
theorem dX3_rank_19 : decode cX3_rank 19 = .ok (.getfield 36, 3) := by decide +kernel
theorem dX3_rank_22 : decode cX3_rank 22 = .ok (.if_icmp .ge 33, 3) := by decide +kernel
theorem dX3_rank_25 : decode cX3_rank 25 = .ok (.aload_n 0, 1) := by decide +kernel
theorem dX3_rank_26 : decode cX3_rank 26 = .ok (.aload_n 1, 1) := by decide +kernel
theorem dX3_rank_27 : decode cX3_rank 27 = .ok (.iload_n 3, 1) := by decide +kernel
theorem dX3_rank_28 : decode cX3_rank 28 = .ok (.invokevirtual 87, 3) := by decide +kernel
theorem dX3_rank_31 : decode cX3_rank 31 = .ok (.istore 5, 2) := by decide +kernel
theorem dX3_rank_33 : decode cX3_rank 33 = .ok (.aload_n 0, 1) := by decide +kernel
theorem dX3_rank_34 : decode cX3_rank 34 = .ok (.aload_n 2, 1) := by decide +kernel
theorem dX3_rank_35 : decode cX3_rank 35 = .ok (.iload 5, 2) := by decide +kernel
theorem dX3_rank_37 : decode cX3_rank 37 = .ok (.iload 4, 2) := by decide +kernel
theorem dX3_rank_39 : decode cX3_rank 39 = .ok (.invokevirtual 91, 3) := by decide +kernel
theorem dX3_rank_42 : decode cX3_rank 42 = .ok (.iload_n 3, 1) := by decide +kernel
theorem dX3_rank_43 : decode cX3_rank 43 = .ok (.iload 5, 2) := by decide +kernel
theorem dX3_rank_45 : decode cX3_rank 45 = .ok (.iconst (-1), 1) := by decide +kernel
theorem dX3_rank_46 : decode cX3_rank 46 = .ok (.ixor, 1) := by decide +kernel
theorem dX3_rank_47 : decode cX3_rank 47 = .ok (.iand, 1) := by decide +kernel
theorem dX3_rank_48 : decode cX3_rank 48 = .ok (.istore_n 3, 1) := by decide +kernel
theorem dX3_rank_49 : decode cX3_rank 49 = .ok (.iinc 4 1, 3) := by decide +kernel
theorem dX3_rank_52 : decode cX3_rank 52 = .ok (.goto (-40), 3) := by decide +kernel
theorem dX3_rank_55 : decode cX3_rank 55 = .ok (.iload_n 3, 1) := by decide +kernel
theorem dX3_rank_56 : decode cX3_rank 56 = .ok (.ifCond .ne 6, 3) := by decide +kernel
theorem dX3_rank_59 : decode cX3_rank 59 = .ok (.iload 4, 2) := by decide +kernel
theorem dX3_rank_61 : decode cX3_rank 61 = .ok (.ireturn, 1) := by decide +kernel
theorem dX3_rank_62 : decode cX3_rank 62 = .ok (.aload_n 0, 1) := by decide +kernel
theorem dX3_rank_63 : decode cX3_rank 63 = .ok (.aload_n 2, 1) := by decide +kernel
theorem dX3_rank_64 : decode cX3_rank 64 = .ok (.iconst 1, 1) := by decide +kernel
theorem dX3_rank_65 : decode cX3_rank 65 = .ok (.aload_n 0, 1) := by decide +kernel
theorem dX3_rank_66 : decode cX3_rank 66 = .ok (.getfield 36, 3) := by decide +kernel
theorem dX3_rank_69 : decode cX3_rank 69 = .ok (.ishl, 1) := by decide +kernel
theorem dX3_rank_70 : decode cX3_rank 70 = .ok (.iconst 1, 1) := by decide +kernel
theorem dX3_rank_71 : decode cX3_rank 71 = .ok (.isub, 1) := by decide +kernel
theorem dX3_rank_72 : decode cX3_rank 72 = .ok (.iconst (-1), 1) := by decide +kernel
theorem dX3_rank_73 : decode cX3_rank 73 = .ok (.invokevirtual 91, 3) := by decide +kernel
theorem dX3_rank_76 : decode cX3_rank 76 = .ok (.iconst (-1), 1) := by decide +kernel
theorem dX3_rank_77 : decode cX3_rank 77 = .ok (.ireturn, 1) := by decide +kernel
theorem dX3_add_0 : decode cX3_add 0 = .ok (.aload_n 0, 1) := by decide +kernel
theorem dX3_add_1 : decode cX3_add 1 = .ok (.getfield 36, 3) := by decide +kernel
theorem dX3_add_4 : decode cX3_add 4 = .ok (.bipush 14, 2) := by decide +kernel
theorem dX3_add_6 : decode cX3_add 6 = .ok (.if_icmp .ge 74, 3) := by decide +kernel
theorem dX3_add_9 : decode cX3_add 9 = .ok (.aload_n 0, 1) := by decide +kernel
theorem dX3_add_10 : decode cX3_add 10 = .ok (.getfield 9, 3) := by decide +kernel
theorem dX3_add_13 : decode cX3_add 13 = .ok (.aload_n 0, 1) := by decide +kernel
theorem dX3_add_14 : decode cX3_add 14 = .ok (.getfield 36, 3) := by decide +kernel
theorem dX3_add_17 : decode cX3_add 17 = .ok (.iload_n 1, 1) := by decide +kernel
theorem dX3_add_18 : decode cX3_add 18 = .ok (.iastore, 1) := by decide +kernel
theorem dX3_add_19 : decode cX3_add 19 = .ok (.aload_n 0, 1) := by decide +kernel
theorem dX3_add_20 : decode cX3_add 20 = .ok (.getfield 15, 3) := by decide +kernel
theorem dX3_add_23 : decode cX3_add 23 = .ok (.aload_n 0, 1) := by decide +kernel
theorem dX3_add_24 : decode cX3_add 24 = .ok (.getfield 36, 3) := by decide +kernel
theorem dX3_add_27 : decode cX3_add 27 = .ok (.iload_n 2, 1) := by decide +kernel
theorem dX3_add_28 : decode cX3_add 28 = .ok (.iastore, 1) := by decide +kernel
theorem dX3_add_29 : decode cX3_add 29 = .ok (.aload_n 0, 1) := by decide +kernel
theorem dX3_add_30 : decode cX3_add 30 = .ok (.getfield 18, 3) := by decide +kernel
theorem dX3_add_33 : decode cX3_add 33 = .ok (.aload_n 0, 1) := by decide +kernel
theorem dX3_add_34 : decode cX3_add 34 = .ok (.getfield 36, 3) := by decide +kernel
theorem dX3_add_37 : decode cX3_add 37 = .ok (.iload_n 3, 1) := by decide +kernel
theorem dX3_add_38 : decode cX3_add 38 = .ok (.iastore, 1) := by decide +kernel
theorem dX3_add_39 : decode cX3_add 39 = .ok (.aload_n 0, 1) := by decide +kernel
theorem dX3_add_40 : decode cX3_add 40 = .ok (.getfield 33, 3) := by decide +kernel
theorem dX3_add_43 : decode cX3_add 43 = .ok (.aload_n 0, 1) := by decide +kernel
theorem dX3_add_44 : decode cX3_add 44 = .ok (.getfield 36, 3) := by decide +kernel
theorem dX3_add_47 : decode cX3_add 47 = .ok (.iload 4, 2) := by decide +kernel
theorem dX3_add_49 : decode cX3_add 49 = .ok (.iastore, 1) := by decide +kernel
theorem dX3_add_50 : decode cX3_add 50 = .ok (.aload_n 0, 1) := by decide +kernel
theorem dX3_add_51 : decode cX3_add 51 = .ok (.getfield 21, 3) := by decide +kernel
theorem dX3_add_54 : decode cX3_add 54 = .ok (.aload_n 0, 1) := by decide +kernel
theorem dX3_add_55 : decode cX3_add 55 = .ok (.getfield 36, 3) := by decide +kernel
theorem dX3_add_58 : decode cX3_add 58 = .ok (.iconst 0, 1) := by decide +kernel
theorem dX3_add_59 : decode cX3_add 59 = .ok (.iastore, 1) := by decide +kernel
theorem dX3_add_60 : decode cX3_add 60 = .ok (.aload_n 0, 1) := by decide +kernel
theorem dX3_add_61 : decode cX3_add 61 = .ok (.getfield 24, 3) := by decide +kernel
theorem dX3_add_64 : decode cX3_add 64 = .ok (.aload_n 0, 1) := by decide +kernel
theorem dX3_add_65 : decode cX3_add 65 = .ok (.getfield 36, 3) := by decide +kernel
theorem dX3_add_68 : decode cX3_add 68 = .ok (.iconst 0, 1) := by decide +kernel
theorem dX3_add_69 : decode cX3_add 69 = .ok (.iastore, 1) := by decide +kernel
theorem dX3_add_70 : decode cX3_add 70 = .ok (.aload_n 0, 1) := by decide +kernel
theorem dX3_add_71 : decode cX3_add 71 = .ok (.dup, 1) := by decide +kernel
theorem dX3_add_72 : decode cX3_add 72 = .ok (.getfield 36, 3) := by decide +kernel
theorem dX3_add_75 : decode cX3_add 75 = .ok (.iconst 1, 1) := by decide +kernel
theorem dX3_add_76 : decode cX3_add 76 = .ok (.iadd, 1) := by decide +kernel
theorem dX3_add_77 : decode cX3_add 77 = .ok (.putfield 36, 3) := by decide +kernel
theorem dX3_add_80 : decode cX3_add 80 = .ok (.return_, 1) := by decide +kernel
theorem dX3_addPieces_0 : decode cX3_addPieces 0 = .ok (.iconst (-1), 1) := by decide +kernel
theorem dX3_addPieces_1 : decode cX3_addPieces 1 = .ok (.istore_n 3, 1) := by decide +kernel
theorem dX3_addPieces_2 : decode cX3_addPieces 2 = .ok (.iconst 0, 1) := by decide +kernel
theorem dX3_addPieces_3 : decode cX3_addPieces 3 = .ok (.istore 4, 2) := by decide +kernel
theorem dX3_addPieces_5 : decode cX3_addPieces 5 = .ok (.iload 4, 2) := by decide +kernel
theorem dX3_addPieces_7 : decode cX3_addPieces 7 = .ok (.bipush 8, 2) := by decide +kernel
theorem dX3_addPieces_9 : decode cX3_addPieces 9 = .ok (.if_icmp .ge 42, 3) := by decide +kernel
theorem dX3_addPieces_12 : decode cX3_addPieces 12 = .ok (.iload_n 2, 1) := by decide +kernel
theorem dX3_addPieces_13 : decode cX3_addPieces 13 = .ok (.iconst 1, 1) := by decide +kernel
theorem dX3_addPieces_14 : decode cX3_addPieces 14 = .ok (.iload 4, 2) := by decide +kernel
theorem dX3_addPieces_16 : decode cX3_addPieces 16 = .ok (.ishl, 1) := by decide +kernel
theorem dX3_addPieces_17 : decode cX3_addPieces 17 = .ok (.iand, 1) := by decide +kernel
theorem dX3_addPieces_18 : decode cX3_addPieces 18 = .ok (.ifCond .eq 27, 3) := by decide +kernel
theorem dX3_addPieces_21 : decode cX3_addPieces 21 = .ok (.iload_n 3, 1) := by decide +kernel
theorem dX3_addPieces_22 : decode cX3_addPieces 22 = .ok (.iconst (-1), 1) := by decide +kernel
theorem dX3_addPieces_23 : decode cX3_addPieces 23 = .ok (.if_icmp .eq 19, 3) := by decide +kernel
theorem dX3_addPieces_26 : decode cX3_addPieces 26 = .ok (.aload_n 0, 1) := by decide +kernel
theorem dX3_addPieces_27 : decode cX3_addPieces 27 = .ok (.iload_n 1, 1) := by decide +kernel
theorem dX3_addPieces_28 : decode cX3_addPieces 28 = .ok (.iload_n 3, 1) := by decide +kernel
theorem dX3_addPieces_29 : decode cX3_addPieces 29 = .ok (.iload 4, 2) := by decide +kernel
theorem dX3_addPieces_31 : decode cX3_addPieces 31 = .ok (.iconst 1, 1) := by decide +kernel
theorem dX3_addPieces_32 : decode cX3_addPieces 32 = .ok (.iload_n 3, 1) := by decide +kernel
theorem dX3_addPieces_33 : decode cX3_addPieces 33 = .ok (.ishl, 1) := by decide +kernel
theorem dX3_addPieces_34 : decode cX3_addPieces 34 = .ok (.iconst 1, 1) := by decide +kernel
theorem dX3_addPieces_35 : decode cX3_addPieces 35 = .ok (.iload 4, 2) := by decide +kernel
theorem dX3_addPieces_37 : decode cX3_addPieces 37 = .ok (.ishl, 1) := by decide +kernel
theorem dX3_addPieces_38 : decode cX3_addPieces 38 = .ok (.ior, 1) := by decide +kernel
theorem dX3_addPieces_39 : decode cX3_addPieces 39 = .ok (.invokevirtual 61, 3) := by decide +kernel
theorem dX3_addPieces_42 : decode cX3_addPieces 42 = .ok (.iload 4, 2) := by decide +kernel
theorem dX3_addPieces_44 : decode cX3_addPieces 44 = .ok (.istore_n 3, 1) := by decide +kernel
theorem dX3_addPieces_45 : decode cX3_addPieces 45 = .ok (.iinc 4 1, 3) := by decide +kernel
theorem dX3_addPieces_48 : decode cX3_addPieces 48 = .ok (.goto (-43), 3) := by decide +kernel
theorem dX3_addPieces_51 : decode cX3_addPieces 51 = .ok (.return_, 1) := by decide +kernel
theorem dX6_lowest_0 : decode cX6_lowest 0 = .ok (.iconst 0, 1) := by decide +kernel
theorem dX6_lowest_1 : decode cX6_lowest 1 = .ok (.istore_n 1, 1) := by decide +kernel
theorem dX6_lowest_2 : decode cX6_lowest 2 = .ok (.iload_n 1, 1) := by decide +kernel
theorem dX6_lowest_3 : decode cX6_lowest 3 = .ok (.bipush 31, 2) := by decide +kernel
theorem dX6_lowest_5 : decode cX6_lowest 5 = .ok (.if_icmp .ge 19, 3) := by decide +kernel
theorem dX6_lowest_8 : decode cX6_lowest 8 = .ok (.iload_n 0, 1) := by decide +kernel
theorem dX6_lowest_9 : decode cX6_lowest 9 = .ok (.iconst 1, 1) := by decide +kernel
theorem dX6_lowest_10 : decode cX6_lowest 10 = .ok (.iload_n 1, 1) := by decide +kernel
theorem dX6_lowest_11 : decode cX6_lowest 11 = .ok (.ishl, 1) := by decide +kernel
theorem dX6_lowest_12 : decode cX6_lowest 12 = .ok (.iand, 1) := by decide +kernel
theorem dX6_lowest_13 : decode cX6_lowest 13 = .ok (.ifCond .eq 5, 3) := by decide +kernel
theorem dX6_lowest_16 : decode cX6_lowest 16 = .ok (.iload_n 1, 1) := by decide +kernel
theorem dX6_lowest_17 : decode cX6_lowest 17 = .ok (.ireturn, 1) := by decide +kernel
theorem dX6_lowest_18 : decode cX6_lowest 18 = .ok (.iinc 1 1, 3) := by decide +kernel
theorem dX6_lowest_21 : decode cX6_lowest 21 = .ok (.goto (-19), 3) := by decide +kernel
theorem dX6_lowest_24 : decode cX6_lowest 24 = .ok (.iconst (-1), 1) := by decide +kernel
theorem dX6_lowest_25 : decode cX6_lowest 25 = .ok (.ireturn, 1) := by decide +kernel
theorem dX6_highest_0 : decode cX6_highest 0 = .ok (.bipush 30, 2) := by decide +kernel
theorem dX6_highest_2 : decode cX6_highest 2 = .ok (.istore_n 1, 1) := by decide +kernel
theorem dX6_highest_3 : decode cX6_highest 3 = .ok (.iload_n 1, 1) := by decide +kernel
theorem dX6_highest_4 : decode cX6_highest 4 = .ok (.ifCond .lt 19, 3) := by decide +kernel
theorem dX6_highest_7 : decode cX6_highest 7 = .ok (.iload_n 0, 1) := by decide +kernel
theorem dX6_highest_8 : decode cX6_highest 8 = .ok (.iconst 1, 1) := by decide +kernel
theorem dX6_highest_9 : decode cX6_highest 9 = .ok (.iload_n 1, 1) := by decide +kernel
theorem dX6_highest_10 : decode cX6_highest 10 = .ok (.ishl, 1) := by decide +kernel
theorem dX6_highest_11 : decode cX6_highest 11 = .ok (.iand, 1) := by decide +kernel
theorem dX6_highest_12 : decode cX6_highest 12 = .ok (.ifCond .eq 5, 3) := by decide +kernel
theorem dX6_highest_15 : decode cX6_highest 15 = .ok (.iload_n 1, 1) := by decide +kernel
theorem dX6_highest_16 : decode cX6_highest 16 = .ok (.ireturn, 1) := by decide +kernel
theorem dX6_highest_17 : decode cX6_highest 17 = .ok (.iinc 1 (-1), 3) := by decide +kernel
theorem dX6_highest_20 : decode cX6_highest 20 = .ok (.goto (-17), 3) := by decide +kernel
theorem dX6_highest_23 : decode cX6_highest 23 = .ok (.iconst (-1), 1) := by decide +kernel
theorem dX6_highest_24 : decode cX6_highest 24 = .ok (.ireturn, 1) := by decide +kernel
theorem dX3_constrain_0 : decode cX3_constrain 0 = .ok (.iload_n 2, 1) := by decide +kernel
theorem dX3_constrain_1 : decode cX3_constrain 1 = .ok (.iload_n 3, 1) := by decide +kernel
theorem dX3_constrain_2 : decode cX3_constrain 2 = .ok (.if_icmp .ne 4, 3) := by decide +kernel
theorem dX3_constrain_5 : decode cX3_constrain 5 = .ok (.return_, 1) := by decide +kernel
theorem dX3_constrain_6 : decode cX3_constrain 6 = .ok (.iconst 0, 1) := by decide +kernel
theorem dX3_constrain_7 : decode cX3_constrain 7 = .ok (.istore 4, 2) := by decide +kernel
theorem dX3_constrain_9 : decode cX3_constrain 9 = .ok (.iload 4, 2) := by decide +kernel
theorem dX3_constrain_11 : decode cX3_constrain 11 = .ok (.aload_n 0, 1) := by decide +kernel
theorem dX3_constrain_12 : decode cX3_constrain 12 = .ok (.getfield 36, 3) := by decide +kernel
theorem dX3_constrain_15 : decode cX3_constrain 15 = .ok (.if_icmp .ge 81, 3) := by decide +kernel
theorem dX3_constrain_18 : decode cX3_constrain 18 = .ok (.aload_n 0, 1) := by decide +kernel
theorem dX3_constrain_19 : decode cX3_constrain 19 = .ok (.iload 4, 2) := by decide +kernel
theorem dX3_constrain_21 : decode cX3_constrain 21 = .ok (.iload_n 2, 1) := by decide +kernel
theorem dX3_constrain_22 : decode cX3_constrain 22 = .ok (.iload_n 1, 1) := by decide +kernel
theorem dX3_constrain_23 : decode cX3_constrain 23 = .ok (.invokevirtual 83, 3) := by decide +kernel
theorem dX3_constrain_26 : decode cX3_constrain 26 = .ok (.istore 5, 2) := by decide +kernel
theorem dX3_constrain_28 : decode cX3_constrain 28 = .ok (.iconst 0, 1) := by decide +kernel
theorem dX3_constrain_29 : decode cX3_constrain 29 = .ok (.istore 6, 2) := by decide +kernel
theorem dX3_constrain_31 : decode cX3_constrain 31 = .ok (.iload 5, 2) := by decide +kernel
theorem dX3_constrain_33 : decode cX3_constrain 33 = .ok (.ifCond .eq 57, 3) := by decide +kernel
theorem dX3_constrain_36 : decode cX3_constrain 36 = .ok (.iload 6, 2) := by decide +kernel
theorem dX3_constrain_38 : decode cX3_constrain 38 = .ok (.aload_n 0, 1) := by decide +kernel
theorem dX3_constrain_39 : decode cX3_constrain 39 = .ok (.getfield 36, 3) := by decide +kernel
theorem dX3_constrain_42 : decode cX3_constrain 42 = .ok (.if_icmp .ge 48, 3) := by decide +kernel
theorem dX3_constrain_45 : decode cX3_constrain 45 = .ok (.aload_n 0, 1) := by decide +kernel
theorem dX3_constrain_46 : decode cX3_constrain 46 = .ok (.iload 6, 2) := by decide +kernel
theorem dX3_constrain_48 : decode cX3_constrain 48 = .ok (.iload_n 3, 1) := by decide +kernel
theorem dX3_constrain_49 : decode cX3_constrain 49 = .ok (.iload_n 1, 1) := by decide +kernel
theorem dX3_constrain_50 : decode cX3_constrain 50 = .ok (.invokevirtual 83, 3) := by decide +kernel
theorem dX3_constrain_53 : decode cX3_constrain 53 = .ok (.ifCond .eq 31, 3) := by decide +kernel
theorem dX3_constrain_56 : decode cX3_constrain 56 = .ok (.aload_n 0, 1) := by decide +kernel
theorem dX3_constrain_57 : decode cX3_constrain 57 = .ok (.getfield 21, 3) := by decide +kernel
theorem dX3_constrain_60 : decode cX3_constrain 60 = .ok (.iload 4, 2) := by decide +kernel
theorem dX3_constrain_62 : decode cX3_constrain 62 = .ok (.dup2, 1) := by decide +kernel
theorem dX3_constrain_63 : decode cX3_constrain 63 = .ok (.iaload, 1) := by decide +kernel
theorem dX3_constrain_64 : decode cX3_constrain 64 = .ok (.iconst 1, 1) := by decide +kernel
theorem dX3_constrain_65 : decode cX3_constrain 65 = .ok (.iload 6, 2) := by decide +kernel
theorem dX3_constrain_67 : decode cX3_constrain 67 = .ok (.ishl, 1) := by decide +kernel
theorem dX3_constrain_68 : decode cX3_constrain 68 = .ok (.ior, 1) := by decide +kernel
theorem dX3_constrain_69 : decode cX3_constrain 69 = .ok (.iastore, 1) := by decide +kernel
theorem dX3_constrain_70 : decode cX3_constrain 70 = .ok (.aload_n 0, 1) := by decide +kernel
theorem dX3_constrain_71 : decode cX3_constrain 71 = .ok (.getfield 24, 3) := by decide +kernel
theorem dX3_constrain_74 : decode cX3_constrain 74 = .ok (.iload 6, 2) := by decide +kernel
theorem dX3_constrain_76 : decode cX3_constrain 76 = .ok (.dup2, 1) := by decide +kernel
theorem dX3_constrain_77 : decode cX3_constrain 77 = .ok (.iaload, 1) := by decide +kernel
theorem dX3_constrain_78 : decode cX3_constrain 78 = .ok (.iconst 1, 1) := by decide +kernel
theorem dX3_constrain_79 : decode cX3_constrain 79 = .ok (.iload 4, 2) := by decide +kernel
theorem dX3_constrain_81 : decode cX3_constrain 81 = .ok (.ishl, 1) := by decide +kernel
theorem dX3_constrain_82 : decode cX3_constrain 82 = .ok (.ior, 1) := by decide +kernel
theorem dX3_constrain_83 : decode cX3_constrain 83 = .ok (.iastore, 1) := by decide +kernel
theorem dX3_constrain_84 : decode cX3_constrain 84 = .ok (.iinc 6 1, 3) := by decide +kernel
theorem dX3_constrain_87 : decode cX3_constrain 87 = .ok (.goto (-56), 3) := by decide +kernel
theorem dX3_constrain_90 : decode cX3_constrain 90 = .ok (.iinc 4 1, 3) := by decide +kernel
theorem dX3_constrain_93 : decode cX3_constrain 93 = .ok (.goto (-84), 3) := by decide +kernel
theorem dX3_constrain_96 : decode cX3_constrain 96 = .ok (.return_, 1) := by decide +kernel
theorem dX3_build_0 : decode cX3_build 0 = .ok (.aload_n 0, 1) := by decide +kernel
theorem dX3_build_1 : decode cX3_build 1 = .ok (.iconst 0, 1) := by decide +kernel
theorem dX3_build_2 : decode cX3_build 2 = .ok (.putfield 36, 3) := by decide +kernel
theorem dX3_build_5 : decode cX3_build 5 = .ok (.iconst 0, 1) := by decide +kernel
theorem dX3_build_6 : decode cX3_build 6 = .ok (.istore_n 3, 1) := by decide +kernel
theorem dX3_build_7 : decode cX3_build 7 = .ok (.iload_n 3, 1) := by decide +kernel
theorem dX3_build_8 : decode cX3_build 8 = .ok (.bipush 6, 2) := by decide +kernel
theorem dX3_build_10 : decode cX3_build 10 = .ok (.if_icmp .ge 60, 3) := by decide +kernel
theorem dX3_build_13 : decode cX3_build 13 = .ok (.aload_n 1, 1) := by decide +kernel
theorem dX3_build_14 : decode cX3_build 14 = .ok (.iload_n 3, 1) := by decide +kernel
theorem dX3_build_15 : decode cX3_build 15 = .ok (.invokevirtual 40, 3) := by decide +kernel
theorem dX3_build_18 : decode cX3_build 18 = .ok (.istore 4, 2) := by decide +kernel
theorem dX3_build_20 : decode cX3_build 20 = .ok (.iload_n 2, 1) := by decide +kernel
theorem dX3_build_21 : decode cX3_build 21 = .ok (.iconst 1, 1) := by decide +kernel
theorem dX3_build_22 : decode cX3_build 22 = .ok (.iload_n 3, 1) := by decide +kernel
theorem dX3_build_23 : decode cX3_build 23 = .ok (.ishl, 1) := by decide +kernel
theorem dX3_build_24 : decode cX3_build 24 = .ok (.iand, 1) := by decide +kernel
theorem dX3_build_25 : decode cX3_build 25 = .ok (.ifCond .eq 13, 3) := by decide +kernel
theorem dX3_build_28 : decode cX3_build 28 = .ok (.aload_n 0, 1) := by decide +kernel
theorem dX3_build_29 : decode cX3_build 29 = .ok (.iload_n 3, 1) := by decide +kernel
theorem dX3_build_30 : decode cX3_build 30 = .ok (.iload 4, 2) := by decide +kernel
theorem dX3_build_32 : decode cX3_build 32 = .ok (.invokevirtual 46, 3) := by decide +kernel
theorem dX3_build_35 : decode cX3_build 35 = .ok (.goto 29, 3) := by decide +kernel
theorem dX3_build_38 : decode cX3_build 38 = .ok (.iload 4, 2) := by decide +kernel
theorem dX3_build_40 : decode cX3_build 40 = .ok (.invokestatic 50, 3) := by decide +kernel
theorem dX3_build_43 : decode cX3_build 43 = .ok (.iconst 1, 1) := by decide +kernel
theorem dX3_build_44 : decode cX3_build 44 = .ok (.if_icmp .le 20, 3) := by decide +kernel
theorem dX3_build_47 : decode cX3_build 47 = .ok (.aload_n 0, 1) := by decide +kernel
theorem dX3_build_48 : decode cX3_build 48 = .ok (.iload_n 3, 1) := by decide +kernel
theorem dX3_build_49 : decode cX3_build 49 = .ok (.iload 4, 2) := by decide +kernel
theorem dX3_build_51 : decode cX3_build 51 = .ok (.invokestatic 55, 3) := by decide +kernel
theorem dX3_build_54 : decode cX3_build 54 = .ok (.iload 4, 2) := by decide +kernel
theorem dX3_build_56 : decode cX3_build 56 = .ok (.invokestatic 58, 3) := by decide +kernel
theorem dX3_build_59 : decode cX3_build 59 = .ok (.iload 4, 2) := by decide +kernel
theorem dX3_build_61 : decode cX3_build 61 = .ok (.invokevirtual 61, 3) := by decide +kernel
theorem dX3_build_64 : decode cX3_build 64 = .ok (.iinc 3 1, 3) := by decide +kernel
theorem dX3_build_67 : decode cX3_build 67 = .ok (.goto (-60), 3) := by decide +kernel
theorem dX3_build_70 : decode cX3_build 70 = .ok (.iconst 0, 1) := by decide +kernel
theorem dX3_build_71 : decode cX3_build 71 = .ok (.istore_n 3, 1) := by decide +kernel
theorem dX3_build_72 : decode cX3_build 72 = .ok (.iload_n 3, 1) := by decide +kernel
theorem dX3_build_73 : decode cX3_build 73 = .ok (.aload_n 1, 1) := by decide +kernel
theorem dX3_build_74 : decode cX3_build 74 = .ok (.getfield 65, 3) := by decide +kernel
theorem dX3_build_77 : decode cX3_build 77 = .ok (.if_icmp .ge 26, 3) := by decide +kernel
theorem dX3_build_80 : decode cX3_build 80 = .ok (.aload_n 0, 1) := by decide +kernel
theorem dX3_build_81 : decode cX3_build 81 = .ok (.iload_n 3, 1) := by decide +kernel
theorem dX3_build_82 : decode cX3_build 82 = .ok (.aload_n 1, 1) := by decide +kernel
theorem dX3_build_83 : decode cX3_build 83 = .ok (.iload_n 3, 1) := by decide +kernel
theorem dX3_build_84 : decode cX3_build 84 = .ok (.iconst 0, 1) := by decide +kernel
theorem dX3_build_85 : decode cX3_build 85 = .ok (.invokevirtual 68, 3) := by decide +kernel
theorem dX3_build_88 : decode cX3_build 88 = .ok (.aload_n 1, 1) := by decide +kernel
theorem dX3_build_89 : decode cX3_build 89 = .ok (.iload_n 3, 1) := by decide +kernel
theorem dX3_build_90 : decode cX3_build 90 = .ok (.iconst 1, 1) := by decide +kernel
theorem dX3_build_91 : decode cX3_build 91 = .ok (.invokevirtual 68, 3) := by decide +kernel
theorem dX3_build_94 : decode cX3_build 94 = .ok (.invokevirtual 72, 3) := by decide +kernel
theorem dX3_build_97 : decode cX3_build 97 = .ok (.iinc 3 1, 3) := by decide +kernel
theorem dX3_build_100 : decode cX3_build 100 = .ok (.goto (-28), 3) := by decide +kernel
theorem dX3_build_103 : decode cX3_build 103 = .ok (.aload_n 0, 1) := by decide +kernel
theorem dX3_build_104 : decode cX3_build 104 = .ok (.aload_n 0, 1) := by decide +kernel
theorem dX3_build_105 : decode cX3_build 105 = .ok (.aload_n 0, 1) := by decide +kernel
theorem dX3_build_106 : decode cX3_build 106 = .ok (.getfield 24, 3) := by decide +kernel
theorem dX3_build_109 : decode cX3_build 109 = .ok (.aload_n 0, 1) := by decide +kernel
theorem dX3_build_110 : decode cX3_build 110 = .ok (.getfield 27, 3) := by decide +kernel
theorem dX3_build_113 : decode cX3_build 113 = .ok (.invokevirtual 76, 3) := by decide +kernel
theorem dX3_build_116 : decode cX3_build 116 = .ok (.putfield 80, 3) := by decide +kernel
theorem dX3_build_119 : decode cX3_build 119 = .ok (.aload_n 0, 1) := by decide +kernel
theorem dX3_build_120 : decode cX3_build 120 = .ok (.aload_n 0, 1) := by decide +kernel
theorem dX3_build_121 : decode cX3_build 121 = .ok (.getfield 21, 3) := by decide +kernel
theorem dX3_build_124 : decode cX3_build 124 = .ok (.aload_n 0, 1) := by decide +kernel
theorem dX3_build_125 : decode cX3_build 125 = .ok (.getfield 30, 3) := by decide +kernel
theorem dX3_build_128 : decode cX3_build 128 = .ok (.invokevirtual 76, 3) := by decide +kernel
theorem dX3_build_131 : decode cX3_build 131 = .ok (.pop, 1) := by decide +kernel
theorem dX3_build_132 : decode cX3_build 132 = .ok (.return_, 1) := by decide +kernel
theorem dX3_numberOf_0 : decode cX3_numberOf 0 = .ok (.iconst 0, 1) := by decide +kernel
theorem dX3_numberOf_1 : decode cX3_numberOf 1 = .ok (.istore_n 2, 1) := by decide +kernel
theorem dX3_numberOf_2 : decode cX3_numberOf 2 = .ok (.iconst 0, 1) := by decide +kernel
theorem dX3_numberOf_3 : decode cX3_numberOf 3 = .ok (.istore_n 3, 1) := by decide +kernel
theorem dX3_numberOf_4 : decode cX3_numberOf 4 = .ok (.iload_n 3, 1) := by decide +kernel
theorem dX3_numberOf_5 : decode cX3_numberOf 5 = .ok (.aload_n 0, 1) := by decide +kernel
theorem dX3_numberOf_6 : decode cX3_numberOf 6 = .ok (.getfield 36, 3) := by decide +kernel
theorem dX3_numberOf_9 : decode cX3_numberOf 9 = .ok (.if_icmp .ge 22, 3) := by decide +kernel
theorem dX3_numberOf_12 : decode cX3_numberOf 12 = .ok (.aload_n 0, 1) := by decide +kernel
theorem dX3_numberOf_13 : decode cX3_numberOf 13 = .ok (.getfield 9, 3) := by decide +kernel
theorem dX3_numberOf_16 : decode cX3_numberOf 16 = .ok (.iload_n 3, 1) := by decide +kernel
theorem dX3_numberOf_17 : decode cX3_numberOf 17 = .ok (.iaload, 1) := by decide +kernel
theorem dX3_numberOf_18 : decode cX3_numberOf 18 = .ok (.iload_n 1, 1) := by decide +kernel
theorem dX3_numberOf_19 : decode cX3_numberOf 19 = .ok (.if_icmp .ne 6, 3) := by decide +kernel
theorem dX3_numberOf_22 : decode cX3_numberOf 22 = .ok (.iinc 2 1, 3) := by decide +kernel
theorem dX3_numberOf_25 : decode cX3_numberOf 25 = .ok (.iinc 3 1, 3) := by decide +kernel
theorem dX3_numberOf_28 : decode cX3_numberOf 28 = .ok (.goto (-24), 3) := by decide +kernel
theorem dX3_numberOf_31 : decode cX3_numberOf 31 = .ok (.iload_n 2, 1) := by decide +kernel
theorem dX3_numberOf_32 : decode cX3_numberOf 32 = .ok (.ireturn, 1) := by decide +kernel
theorem dX4_append_0 : decode cX4_append 0 = .ok (.aload_n 0, 1) := by decide +kernel
theorem dX4_append_1 : decode cX4_append 1 = .ok (.getfield 15, 3) := by decide +kernel
theorem dX4_append_4 : decode cX4_append 4 = .ok (.bipush 20, 2) := by decide +kernel
theorem dX4_append_6 : decode cX4_append 6 = .ok (.if_icmp .ge 23, 3) := by decide +kernel
theorem dX4_append_9 : decode cX4_append 9 = .ok (.aload_n 0, 1) := by decide +kernel
theorem dX4_append_10 : decode cX4_append 10 = .ok (.getfield 9, 3) := by decide +kernel
theorem dX4_append_13 : decode cX4_append 13 = .ok (.aload_n 0, 1) := by decide +kernel
theorem dX4_append_14 : decode cX4_append 14 = .ok (.getfield 15, 3) := by decide +kernel
theorem dX4_append_17 : decode cX4_append 17 = .ok (.iload_n 1, 1) := by decide +kernel
theorem dX4_append_18 : decode cX4_append 18 = .ok (.iastore, 1) := by decide +kernel
theorem dX4_append_19 : decode cX4_append 19 = .ok (.aload_n 0, 1) := by decide +kernel
theorem dX4_append_20 : decode cX4_append 20 = .ok (.dup, 1) := by decide +kernel
theorem dX4_append_21 : decode cX4_append 21 = .ok (.getfield 15, 3) := by decide +kernel
theorem dX4_append_24 : decode cX4_append 24 = .ok (.iconst 1, 1) := by decide +kernel
theorem dX4_append_25 : decode cX4_append 25 = .ok (.iadd, 1) := by decide +kernel
theorem dX4_append_26 : decode cX4_append 26 = .ok (.putfield 15, 3) := by decide +kernel
theorem dX4_append_29 : decode cX4_append 29 = .ok (.return_, 1) := by decide +kernel
theorem dX4_lastCode_0 : decode cX4_lastCode 0 = .ok (.aload_n 0, 1) := by decide +kernel
theorem dX4_lastCode_1 : decode cX4_lastCode 1 = .ok (.getfield 15, 3) := by decide +kernel
theorem dX4_lastCode_4 : decode cX4_lastCode 4 = .ok (.ifCond .le 17, 3) := by decide +kernel
theorem dX4_lastCode_7 : decode cX4_lastCode 7 = .ok (.aload_n 0, 1) := by decide +kernel
theorem dX4_lastCode_8 : decode cX4_lastCode 8 = .ok (.getfield 9, 3) := by decide +kernel
theorem dX4_lastCode_11 : decode cX4_lastCode 11 = .ok (.aload_n 0, 1) := by decide +kernel
theorem dX4_lastCode_12 : decode cX4_lastCode 12 = .ok (.getfield 15, 3) := by decide +kernel
theorem dX4_lastCode_15 : decode cX4_lastCode 15 = .ok (.iconst 1, 1) := by decide +kernel
theorem dX4_lastCode_16 : decode cX4_lastCode 16 = .ok (.isub, 1) := by decide +kernel
theorem dX4_lastCode_17 : decode cX4_lastCode 17 = .ok (.iaload, 1) := by decide +kernel
theorem dX4_lastCode_18 : decode cX4_lastCode 18 = .ok (.goto 4, 3) := by decide +kernel
theorem dX4_lastCode_21 : decode cX4_lastCode 21 = .ok (.iconst (-1), 1) := by decide +kernel
theorem dX4_lastCode_22 : decode cX4_lastCode 22 = .ok (.ireturn, 1) := by decide +kernel
theorem dX4_netAt_0 : decode cX4_netAt 0 = .ok (.iload_n 1, 1) := by decide +kernel
theorem dX4_netAt_1 : decode cX4_netAt 1 = .ok (.ifCond .lt 22, 3) := by decide +kernel
theorem dX4_netAt_4 : decode cX4_netAt 4 = .ok (.iload_n 1, 1) := by decide +kernel
theorem dX4_netAt_5 : decode cX4_netAt 5 = .ok (.aload_n 0, 1) := by decide +kernel
theorem dX4_netAt_6 : decode cX4_netAt 6 = .ok (.getfield 15, 3) := by decide +kernel
theorem dX4_netAt_9 : decode cX4_netAt 9 = .ok (.if_icmp .ge 14, 3) := by decide +kernel
theorem dX4_netAt_12 : decode cX4_netAt 12 = .ok (.aload_n 0, 1) := by decide +kernel
theorem dX4_netAt_13 : decode cX4_netAt 13 = .ok (.getfield 9, 3) := by decide +kernel
theorem dX4_netAt_16 : decode cX4_netAt 16 = .ok (.iload_n 1, 1) := by decide +kernel
theorem dX4_netAt_17 : decode cX4_netAt 17 = .ok (.iaload, 1) := by decide +kernel
theorem dX4_netAt_18 : decode cX4_netAt 18 = .ok (.bipush 46, 2) := by decide +kernel
theorem dX4_netAt_20 : decode cX4_netAt 20 = .ok (.if_icmp .ne 5, 3) := by decide +kernel
theorem dX4_netAt_23 : decode cX4_netAt 23 = .ok (.iconst (-1), 1) := by decide +kernel
theorem dX4_netAt_24 : decode cX4_netAt 24 = .ok (.ireturn, 1) := by decide +kernel
theorem dX4_netAt_25 : decode cX4_netAt 25 = .ok (.aload_n 0, 1) := by decide +kernel
theorem dX4_netAt_26 : decode cX4_netAt 26 = .ok (.getfield 9, 3) := by decide +kernel
theorem dX4_netAt_29 : decode cX4_netAt 29 = .ok (.iload_n 1, 1) := by decide +kernel
theorem dX4_netAt_30 : decode cX4_netAt 30 = .ok (.iaload, 1) := by decide +kernel
theorem dX4_netAt_31 : decode cX4_netAt 31 = .ok (.bipush 97, 2) := by decide +kernel
theorem dX4_netAt_33 : decode cX4_netAt 33 = .ok (.isub, 1) := by decide +kernel
theorem dX4_netAt_34 : decode cX4_netAt 34 = .ok (.ireturn, 1) := by decide +kernel
theorem dX4_isNetSign_0 : decode cX4_isNetSign 0 = .ok (.iload_n 0, 1) := by decide +kernel
theorem dX4_isNetSign_1 : decode cX4_isNetSign 1 = .ok (.bipush 97, 2) := by decide +kernel
theorem dX4_isNetSign_3 : decode cX4_isNetSign 3 = .ok (.if_icmp .lt 13, 3) := by decide +kernel
theorem dX4_isNetSign_6 : decode cX4_isNetSign 6 = .ok (.iload_n 0, 1) := by decide +kernel
theorem dX4_isNetSign_7 : decode cX4_isNetSign 7 = .ok (.bipush 103, 2) := by decide +kernel
theorem dX4_isNetSign_9 : decode cX4_isNetSign 9 = .ok (.if_icmp .ge 7, 3) := by decide +kernel
theorem dX4_isNetSign_12 : decode cX4_isNetSign 12 = .ok (.iconst 1, 1) := by decide +kernel
theorem dX4_isNetSign_13 : decode cX4_isNetSign 13 = .ok (.goto 4, 3) := by decide +kernel
theorem dX4_isNetSign_16 : decode cX4_isNetSign 16 = .ok (.iconst 0, 1) := by decide +kernel
theorem dX4_isNetSign_17 : decode cX4_isNetSign 17 = .ok (.ireturn, 1) := by decide +kernel
theorem dX4_isPinSign_0 : decode cX4_isPinSign 0 = .ok (.iload_n 0, 1) := by decide +kernel
theorem dX4_isPinSign_1 : decode cX4_isPinSign 1 = .ok (.bipush 46, 2) := by decide +kernel
theorem dX4_isPinSign_3 : decode cX4_isPinSign 3 = .ok (.if_icmp .eq 10, 3) := by decide +kernel
theorem dX4_isPinSign_6 : decode cX4_isPinSign 6 = .ok (.iload_n 0, 1) := by decide +kernel
theorem dX4_isPinSign_7 : decode cX4_isPinSign 7 = .ok (.invokestatic 27, 3) := by decide +kernel
theorem dX4_isPinSign_10 : decode cX4_isPinSign 10 = .ok (.ifCond .eq 7, 3) := by decide +kernel
theorem dX4_isPinSign_13 : decode cX4_isPinSign 13 = .ok (.iconst 1, 1) := by decide +kernel
theorem dX4_isPinSign_14 : decode cX4_isPinSign 14 = .ok (.goto 4, 3) := by decide +kernel
theorem dX4_isPinSign_17 : decode cX4_isPinSign 17 = .ok (.iconst 0, 1) := by decide +kernel
theorem dX4_isPinSign_18 : decode cX4_isPinSign 18 = .ok (.ireturn, 1) := by decide +kernel
theorem dX4_fitsChannel_0 : decode cX4_fitsChannel 0 = .ok (.aload_n 0, 1) := by decide +kernel
theorem dX4_fitsChannel_1 : decode cX4_fitsChannel 1 = .ok (.getfield 9, 3) := by decide +kernel
theorem dX4_fitsChannel_4 : decode cX4_fitsChannel 4 = .ok (.iload_n 1, 1) := by decide +kernel
theorem dX4_fitsChannel_5 : decode cX4_fitsChannel 5 = .ok (.iaload, 1) := by decide +kernel
theorem dX4_fitsChannel_6 : decode cX4_fitsChannel 6 = .ok (.istore_n 3, 1) := by decide +kernel
theorem dX4_fitsChannel_7 : decode cX4_fitsChannel 7 = .ok (.iload_n 2, 1) := by decide +kernel
theorem dX4_fitsChannel_8 : decode cX4_fitsChannel 8 = .ok (.iconst (-1), 1) := by decide +kernel
theorem dX4_fitsChannel_9 : decode cX4_fitsChannel 9 = .ok (.if_icmp .eq 23, 3) := by decide +kernel
theorem dX4_fitsChannel_12 : decode cX4_fitsChannel 12 = .ok (.iload_n 1, 1) := by decide +kernel
theorem dX4_fitsChannel_13 : decode cX4_fitsChannel 13 = .ok (.iconst 2, 1) := by decide +kernel
theorem dX4_fitsChannel_14 : decode cX4_fitsChannel 14 = .ok (.iload_n 2, 1) := by decide +kernel
theorem dX4_fitsChannel_15 : decode cX4_fitsChannel 15 = .ok (.imul, 1) := by decide +kernel
theorem dX4_fitsChannel_16 : decode cX4_fitsChannel 16 = .ok (.if_icmp .gt 14, 3) := by decide +kernel
theorem dX4_fitsChannel_19 : decode cX4_fitsChannel 19 = .ok (.iload_n 3, 1) := by decide +kernel
theorem dX4_fitsChannel_20 : decode cX4_fitsChannel 20 = .ok (.invokestatic 23, 3) := by decide +kernel
theorem dX4_fitsChannel_23 : decode cX4_fitsChannel 23 = .ok (.ifCond .eq 7, 3) := by decide +kernel
theorem dX4_fitsChannel_26 : decode cX4_fitsChannel 26 = .ok (.iconst 1, 1) := by decide +kernel
theorem dX4_fitsChannel_27 : decode cX4_fitsChannel 27 = .ok (.goto 4, 3) := by decide +kernel
theorem dX4_fitsChannel_30 : decode cX4_fitsChannel 30 = .ok (.iconst 0, 1) := by decide +kernel
theorem dX4_fitsChannel_31 : decode cX4_fitsChannel 31 = .ok (.ireturn, 1) := by decide +kernel
theorem dX4_fitsChannel_32 : decode cX4_fitsChannel 32 = .ok (.iload_n 3, 1) := by decide +kernel
theorem dX4_fitsChannel_33 : decode cX4_fitsChannel 33 = .ok (.bipush 47, 2) := by decide +kernel
theorem dX4_fitsChannel_35 : decode cX4_fitsChannel 35 = .ok (.if_icmp .ne 14, 3) := by decide +kernel
theorem dX4_fitsChannel_38 : decode cX4_fitsChannel 38 = .ok (.iload_n 1, 1) := by decide +kernel
theorem dX4_fitsChannel_39 : decode cX4_fitsChannel 39 = .ok (.iconst 2, 1) := by decide +kernel
theorem dX4_fitsChannel_40 : decode cX4_fitsChannel 40 = .ok (.if_icmp .lt 7, 3) := by decide +kernel
theorem dX4_fitsChannel_43 : decode cX4_fitsChannel 43 = .ok (.iconst 1, 1) := by decide +kernel
theorem dX4_fitsChannel_44 : decode cX4_fitsChannel 44 = .ok (.goto 4, 3) := by decide +kernel
theorem dX4_fitsChannel_47 : decode cX4_fitsChannel 47 = .ok (.iconst 0, 1) := by decide +kernel
theorem dX4_fitsChannel_48 : decode cX4_fitsChannel 48 = .ok (.ireturn, 1) := by decide +kernel
theorem dX4_fitsChannel_49 : decode cX4_fitsChannel 49 = .ok (.iload_n 1, 1) := by decide +kernel
theorem dX4_fitsChannel_50 : decode cX4_fitsChannel 50 = .ok (.bipush 8, 2) := by decide +kernel
theorem dX4_fitsChannel_52 : decode cX4_fitsChannel 52 = .ok (.if_icmp .ge 14, 3) := by decide +kernel
theorem dX4_fitsChannel_55 : decode cX4_fitsChannel 55 = .ok (.iload_n 3, 1) := by decide +kernel
theorem dX4_fitsChannel_56 : decode cX4_fitsChannel 56 = .ok (.invokestatic 23, 3) := by decide +kernel
theorem dX4_fitsChannel_59 : decode cX4_fitsChannel 59 = .ok (.ifCond .eq 7, 3) := by decide +kernel
theorem dX4_fitsChannel_62 : decode cX4_fitsChannel 62 = .ok (.iconst 1, 1) := by decide +kernel
theorem dX4_fitsChannel_63 : decode cX4_fitsChannel 63 = .ok (.goto 4, 3) := by decide +kernel
theorem dX4_fitsChannel_66 : decode cX4_fitsChannel 66 = .ok (.iconst 0, 1) := by decide +kernel
theorem dX4_fitsChannel_67 : decode cX4_fitsChannel 67 = .ok (.ireturn, 1) := by decide +kernel
theorem dX4_channelFault_0 : decode cX4_channelFault 0 = .ok (.iconst (-1), 1) := by decide +kernel
theorem dX4_channelFault_1 : decode cX4_channelFault 1 = .ok (.istore_n 1, 1) := by decide +kernel
theorem dX4_channelFault_2 : decode cX4_channelFault 2 = .ok (.iconst 0, 1) := by decide +kernel
theorem dX4_channelFault_3 : decode cX4_channelFault 3 = .ok (.istore_n 2, 1) := by decide +kernel
theorem dX4_channelFault_4 : decode cX4_channelFault 4 = .ok (.iload_n 2, 1) := by decide +kernel
theorem dX4_channelFault_5 : decode cX4_channelFault 5 = .ok (.aload_n 0, 1) := by decide +kernel
theorem dX4_channelFault_6 : decode cX4_channelFault 6 = .ok (.getfield 15, 3) := by decide +kernel
theorem dX4_channelFault_9 : decode cX4_channelFault 9 = .ok (.if_icmp .ge 33, 3) := by decide +kernel
theorem dX4_channelFault_12 : decode cX4_channelFault 12 = .ok (.aload_n 0, 1) := by decide +kernel
theorem dX4_channelFault_13 : decode cX4_channelFault 13 = .ok (.iload_n 2, 1) := by decide +kernel
theorem dX4_channelFault_14 : decode cX4_channelFault 14 = .ok (.iload_n 1, 1) := by decide +kernel
theorem dX4_channelFault_15 : decode cX4_channelFault 15 = .ok (.invokevirtual 19, 3) := by decide +kernel
theorem dX4_channelFault_18 : decode cX4_channelFault 18 = .ok (.ifCond .ne 5, 3) := by decide +kernel
theorem dX4_channelFault_21 : decode cX4_channelFault 21 = .ok (.iload_n 2, 1) := by decide +kernel
theorem dX4_channelFault_22 : decode cX4_channelFault 22 = .ok (.ireturn, 1) := by decide +kernel
theorem dX4_channelFault_23 : decode cX4_channelFault 23 = .ok (.aload_n 0, 1) := by decide +kernel
theorem dX4_channelFault_24 : decode cX4_channelFault 24 = .ok (.getfield 9, 3) := by decide +kernel
theorem dX4_channelFault_27 : decode cX4_channelFault 27 = .ok (.iload_n 2, 1) := by decide +kernel
theorem dX4_channelFault_28 : decode cX4_channelFault 28 = .ok (.iaload, 1) := by decide +kernel
theorem dX4_channelFault_29 : decode cX4_channelFault 29 = .ok (.bipush 47, 2) := by decide +kernel
theorem dX4_channelFault_31 : decode cX4_channelFault 31 = .ok (.if_icmp .ne 5, 3) := by decide +kernel
theorem dX4_channelFault_34 : decode cX4_channelFault 34 = .ok (.iload_n 2, 1) := by decide +kernel
theorem dX4_channelFault_35 : decode cX4_channelFault 35 = .ok (.istore_n 1, 1) := by decide +kernel
theorem dX4_channelFault_36 : decode cX4_channelFault 36 = .ok (.iinc 2 1, 3) := by decide +kernel
theorem dX4_channelFault_39 : decode cX4_channelFault 39 = .ok (.goto (-35), 3) := by decide +kernel
theorem dX4_channelFault_42 : decode cX4_channelFault 42 = .ok (.aload_n 0, 1) := by decide +kernel
theorem dX4_channelFault_43 : decode cX4_channelFault 43 = .ok (.getfield 15, 3) := by decide +kernel
theorem dX4_channelFault_46 : decode cX4_channelFault 46 = .ok (.ireturn, 1) := by decide +kernel
theorem dX4_columnsOfChannel_0 : decode cX4_columnsOfChannel 0 = .ok (.aload_n 0, 1) := by decide +kernel
theorem dX4_columnsOfChannel_1 : decode cX4_columnsOfChannel 1 = .ok (.getfield 15, 3) := by decide +kernel
theorem dX4_columnsOfChannel_4 : decode cX4_columnsOfChannel 4 = .ok (.iconst 2, 1) := by decide +kernel
theorem dX4_columnsOfChannel_5 : decode cX4_columnsOfChannel 5 = .ok (.idiv, 1) := by decide +kernel
theorem dX4_columnsOfChannel_6 : decode cX4_columnsOfChannel 6 = .ok (.istore_n 1, 1) := by decide +kernel
theorem dX4_columnsOfChannel_7 : decode cX4_columnsOfChannel 7 = .ok (.aload_n 0, 1) := by decide +kernel
theorem dX4_columnsOfChannel_8 : decode cX4_columnsOfChannel 8 = .ok (.getfield 15, 3) := by decide +kernel
theorem dX4_columnsOfChannel_11 : decode cX4_columnsOfChannel 11 = .ok (.iconst 2, 1) := by decide +kernel
theorem dX4_columnsOfChannel_12 : decode cX4_columnsOfChannel 12 = .ok (.iload_n 1, 1) := by decide +kernel
theorem dX4_columnsOfChannel_13 : decode cX4_columnsOfChannel 13 = .ok (.imul, 1) := by decide +kernel
theorem dX4_columnsOfChannel_14 : decode cX4_columnsOfChannel 14 = .ok (.iconst 1, 1) := by decide +kernel
theorem dX4_columnsOfChannel_15 : decode cX4_columnsOfChannel 15 = .ok (.iadd, 1) := by decide +kernel
theorem dX4_columnsOfChannel_16 : decode cX4_columnsOfChannel 16 = .ok (.if_icmp .ne 14, 3) := by decide +kernel
theorem dX4_columnsOfChannel_19 : decode cX4_columnsOfChannel 19 = .ok (.aload_n 0, 1) := by decide +kernel
theorem dX4_columnsOfChannel_20 : decode cX4_columnsOfChannel 20 = .ok (.getfield 9, 3) := by decide +kernel
theorem dX4_columnsOfChannel_23 : decode cX4_columnsOfChannel 23 = .ok (.iload_n 1, 1) := by decide +kernel
theorem dX4_columnsOfChannel_24 : decode cX4_columnsOfChannel 24 = .ok (.iaload, 1) := by decide +kernel
theorem dX4_columnsOfChannel_25 : decode cX4_columnsOfChannel 25 = .ok (.bipush 47, 2) := by decide +kernel
theorem dX4_columnsOfChannel_27 : decode cX4_columnsOfChannel 27 = .ok (.if_icmp .eq 5, 3) := by decide +kernel
theorem dX4_columnsOfChannel_30 : decode cX4_columnsOfChannel 30 = .ok (.iconst (-1), 1) := by decide +kernel
theorem dX4_columnsOfChannel_31 : decode cX4_columnsOfChannel 31 = .ok (.ireturn, 1) := by decide +kernel
theorem dX4_columnsOfChannel_32 : decode cX4_columnsOfChannel 32 = .ok (.aload_n 0, 1) := by decide +kernel
theorem dX4_columnsOfChannel_33 : decode cX4_columnsOfChannel 33 = .ok (.invokevirtual 30, 3) := by decide +kernel
theorem dX4_columnsOfChannel_36 : decode cX4_columnsOfChannel 36 = .ok (.aload_n 0, 1) := by decide +kernel
theorem dX4_columnsOfChannel_37 : decode cX4_columnsOfChannel 37 = .ok (.getfield 15, 3) := by decide +kernel
theorem dX4_columnsOfChannel_40 : decode cX4_columnsOfChannel 40 = .ok (.if_icmp .ne 7, 3) := by decide +kernel
theorem dX4_columnsOfChannel_43 : decode cX4_columnsOfChannel 43 = .ok (.iload_n 1, 1) := by decide +kernel
theorem dX4_columnsOfChannel_44 : decode cX4_columnsOfChannel 44 = .ok (.goto 4, 3) := by decide +kernel
theorem dX4_columnsOfChannel_47 : decode cX4_columnsOfChannel 47 = .ok (.iconst (-1), 1) := by decide +kernel
theorem dX4_columnsOfChannel_48 : decode cX4_columnsOfChannel 48 = .ok (.ireturn, 1) := by decide +kernel
theorem dX4_pattern_0 : decode cX4_pattern 0 = .ok (.iload_n 0, 1) := by decide +kernel
theorem dX4_pattern_1 : decode cX4_pattern 1 = .ok (.tableswitch 54 0 5 #[39, 42, 45, 48, 51, 54], 39) := by decide +kernel
theorem dX4_pattern_40 : decode cX4_pattern 40 = .ok (.ldc 52, 2) := by decide +kernel
theorem dX4_pattern_42 : decode cX4_pattern 42 = .ok (.areturn, 1) := by decide +kernel
theorem dX4_pattern_43 : decode cX4_pattern 43 = .ok (.ldc 54, 2) := by decide +kernel
theorem dX4_pattern_45 : decode cX4_pattern 45 = .ok (.areturn, 1) := by decide +kernel
theorem dX4_pattern_46 : decode cX4_pattern 46 = .ok (.ldc 56, 2) := by decide +kernel
theorem dX4_pattern_48 : decode cX4_pattern 48 = .ok (.areturn, 1) := by decide +kernel
theorem dX4_pattern_49 : decode cX4_pattern 49 = .ok (.ldc 58, 2) := by decide +kernel
theorem dX4_pattern_51 : decode cX4_pattern 51 = .ok (.areturn, 1) := by decide +kernel
theorem dX4_pattern_52 : decode cX4_pattern 52 = .ok (.ldc 60, 2) := by decide +kernel
theorem dX4_pattern_54 : decode cX4_pattern 54 = .ok (.areturn, 1) := by decide +kernel
theorem dX4_pattern_55 : decode cX4_pattern 55 = .ok (.ldc 62, 2) := by decide +kernel
theorem dX4_pattern_57 : decode cX4_pattern 57 = .ok (.areturn, 1) := by decide +kernel
theorem dX4_agrees_0 : decode cX4_agrees 0 = .ok (.iload_n 1, 1) := by decide +kernel
theorem dX4_agrees_1 : decode cX4_agrees 1 = .ok (.bipush 63, 2) := by decide +kernel
theorem dX4_agrees_3 : decode cX4_agrees 3 = .ok (.if_icmp .ne 8, 3) := by decide +kernel
theorem dX4_agrees_6 : decode cX4_agrees 6 = .ok (.iload_n 0, 1) := by decide +kernel
theorem dX4_agrees_7 : decode cX4_agrees 7 = .ok (.invokestatic 27, 3) := by decide +kernel
theorem dX4_agrees_10 : decode cX4_agrees 10 = .ok (.ireturn, 1) := by decide +kernel
theorem dX4_agrees_11 : decode cX4_agrees 11 = .ok (.iload_n 1, 1) := by decide +kernel
theorem dX4_agrees_12 : decode cX4_agrees 12 = .ok (.bipush 35, 2) := by decide +kernel
theorem dX4_agrees_14 : decode cX4_agrees 14 = .ok (.if_icmp .ne 21, 3) := by decide +kernel
theorem dX4_agrees_17 : decode cX4_agrees 17 = .ok (.iload_n 0, 1) := by decide +kernel
theorem dX4_agrees_18 : decode cX4_agrees 18 = .ok (.bipush 48, 2) := by decide +kernel
theorem dX4_agrees_20 : decode cX4_agrees 20 = .ok (.if_icmp .lt 13, 3) := by decide +kernel
theorem dX4_agrees_23 : decode cX4_agrees 23 = .ok (.iload_n 0, 1) := by decide +kernel
theorem dX4_agrees_24 : decode cX4_agrees 24 = .ok (.bipush 57, 2) := by decide +kernel
theorem dX4_agrees_26 : decode cX4_agrees 26 = .ok (.if_icmp .gt 7, 3) := by decide +kernel
theorem dX4_agrees_29 : decode cX4_agrees 29 = .ok (.iconst 1, 1) := by decide +kernel
theorem dX4_agrees_30 : decode cX4_agrees 30 = .ok (.goto 4, 3) := by decide +kernel
theorem dX4_agrees_33 : decode cX4_agrees 33 = .ok (.iconst 0, 1) := by decide +kernel
theorem dX4_agrees_34 : decode cX4_agrees 34 = .ok (.ireturn, 1) := by decide +kernel
theorem dX4_agrees_35 : decode cX4_agrees 35 = .ok (.iload_n 0, 1) := by decide +kernel
theorem dX4_agrees_36 : decode cX4_agrees 36 = .ok (.iload_n 1, 1) := by decide +kernel
theorem dX4_agrees_37 : decode cX4_agrees 37 = .ok (.if_icmp .ne 7, 3) := by decide +kernel
theorem dX4_agrees_40 : decode cX4_agrees 40 = .ok (.iconst 1, 1) := by decide +kernel
theorem dX4_agrees_41 : decode cX4_agrees 41 = .ok (.goto 4, 3) := by decide +kernel
theorem dX4_agrees_44 : decode cX4_agrees 44 = .ok (.iconst 0, 1) := by decide +kernel
theorem dX4_agrees_45 : decode cX4_agrees 45 = .ok (.ireturn, 1) := by decide +kernel
theorem dX4_agreement_0 : decode cX4_agreement 0 = .ok (.aload_n 0, 1) := by decide +kernel
theorem dX4_agreement_1 : decode cX4_agreement 1 = .ok (.getfield 15, 3) := by decide +kernel
theorem dX4_agreement_4 : decode cX4_agreement 4 = .ok (.aload_n 1, 1) := by decide +kernel
theorem dX4_agreement_5 : decode cX4_agreement 5 = .ok (.invokevirtual 48, 3) := by decide +kernel
theorem dX4_agreement_8 : decode cX4_agreement 8 = .ok (.invokestatic 64, 3) := by decide +kernel
theorem dX4_agreement_11 : decode cX4_agreement 11 = .ok (.istore_n 2, 1) := by decide +kernel
theorem dX4_agreement_12 : decode cX4_agreement 12 = .ok (.iconst 0, 1) := by decide +kernel
theorem dX4_agreement_13 : decode cX4_agreement 13 = .ok (.istore_n 3, 1) := by decide +kernel
theorem dX4_agreement_14 : decode cX4_agreement 14 = .ok (.iload_n 3, 1) := by decide +kernel
theorem dX4_agreement_15 : decode cX4_agreement 15 = .ok (.iload_n 2, 1) := by decide +kernel
theorem dX4_agreement_16 : decode cX4_agreement 16 = .ok (.if_icmp .ge 28, 3) := by decide +kernel
theorem dX4_agreement_19 : decode cX4_agreement 19 = .ok (.aload_n 0, 1) := by decide +kernel
theorem dX4_agreement_20 : decode cX4_agreement 20 = .ok (.getfield 9, 3) := by decide +kernel
theorem dX4_agreement_23 : decode cX4_agreement 23 = .ok (.iload_n 3, 1) := by decide +kernel
theorem dX4_agreement_24 : decode cX4_agreement 24 = .ok (.iaload, 1) := by decide +kernel
theorem dX4_agreement_25 : decode cX4_agreement 25 = .ok (.aload_n 1, 1) := by decide +kernel
theorem dX4_agreement_26 : decode cX4_agreement 26 = .ok (.iload_n 3, 1) := by decide +kernel
theorem dX4_agreement_27 : decode cX4_agreement 27 = .ok (.invokevirtual 67, 3) := by decide +kernel
theorem dX4_agreement_30 : decode cX4_agreement 30 = .ok (.invokestatic 71, 3) := by decide +kernel
theorem dX4_agreement_33 : decode cX4_agreement 33 = .ok (.ifCond .ne 5, 3) := by decide +kernel
theorem dX4_agreement_36 : decode cX4_agreement 36 = .ok (.iload_n 3, 1) := by decide +kernel
theorem dX4_agreement_37 : decode cX4_agreement 37 = .ok (.ireturn, 1) := by decide +kernel
theorem dX4_agreement_38 : decode cX4_agreement 38 = .ok (.iinc 3 1, 3) := by decide +kernel
theorem dX4_agreement_41 : decode cX4_agreement 41 = .ok (.goto (-27), 3) := by decide +kernel
theorem dX4_agreement_44 : decode cX4_agreement 44 = .ok (.iload_n 2, 1) := by decide +kernel
theorem dX4_agreement_45 : decode cX4_agreement 45 = .ok (.ireturn, 1) := by decide +kernel
theorem dX4_commandFault_0 : decode cX4_commandFault 0 = .ok (.iconst 0, 1) := by decide +kernel
theorem dX4_commandFault_1 : decode cX4_commandFault 1 = .ok (.istore_n 1, 1) := by decide +kernel
theorem dX4_commandFault_2 : decode cX4_commandFault 2 = .ok (.iconst 0, 1) := by decide +kernel
theorem dX4_commandFault_3 : decode cX4_commandFault 3 = .ok (.istore_n 2, 1) := by decide +kernel
theorem dX4_commandFault_4 : decode cX4_commandFault 4 = .ok (.iload_n 2, 1) := by decide +kernel
theorem dX4_commandFault_5 : decode cX4_commandFault 5 = .ok (.bipush 6, 2) := by decide +kernel
theorem dX4_commandFault_7 : decode cX4_commandFault 7 = .ok (.if_icmp .ge 22, 3) := by decide +kernel
theorem dX4_commandFault_10 : decode cX4_commandFault 10 = .ok (.iload_n 1, 1) := by decide +kernel
theorem dX4_commandFault_11 : decode cX4_commandFault 11 = .ok (.aload_n 0, 1) := by decide +kernel
theorem dX4_commandFault_12 : decode cX4_commandFault 12 = .ok (.iload_n 2, 1) := by decide +kernel
theorem dX4_commandFault_13 : decode cX4_commandFault 13 = .ok (.invokestatic 34, 3) := by decide +kernel
theorem dX4_commandFault_16 : decode cX4_commandFault 16 = .ok (.invokevirtual 38, 3) := by decide +kernel
theorem dX4_commandFault_19 : decode cX4_commandFault 19 = .ok (.invokestatic 42, 3) := by decide +kernel
theorem dX4_commandFault_22 : decode cX4_commandFault 22 = .ok (.istore_n 1, 1) := by decide +kernel
theorem dX4_commandFault_23 : decode cX4_commandFault 23 = .ok (.iinc 2 1, 3) := by decide +kernel
theorem dX4_commandFault_26 : decode cX4_commandFault 26 = .ok (.goto (-22), 3) := by decide +kernel
theorem dX4_commandFault_29 : decode cX4_commandFault 29 = .ok (.iload_n 1, 1) := by decide +kernel
theorem dX4_commandFault_30 : decode cX4_commandFault 30 = .ok (.ireturn, 1) := by decide +kernel
theorem dX4_command_0 : decode cX4_command 0 = .ok (.iconst 0, 1) := by decide +kernel
theorem dX4_command_1 : decode cX4_command 1 = .ok (.istore_n 1, 1) := by decide +kernel
theorem dX4_command_2 : decode cX4_command 2 = .ok (.iload_n 1, 1) := by decide +kernel
theorem dX4_command_3 : decode cX4_command 3 = .ok (.bipush 6, 2) := by decide +kernel
theorem dX4_command_5 : decode cX4_command 5 = .ok (.if_icmp .ge 39, 3) := by decide +kernel
theorem dX4_command_8 : decode cX4_command 8 = .ok (.iload_n 1, 1) := by decide +kernel
theorem dX4_command_9 : decode cX4_command 9 = .ok (.invokestatic 34, 3) := by decide +kernel
theorem dX4_command_12 : decode cX4_command 12 = .ok (.astore_n 2, 1) := by decide +kernel
theorem dX4_command_13 : decode cX4_command 13 = .ok (.aload_n 0, 1) := by decide +kernel
theorem dX4_command_14 : decode cX4_command 14 = .ok (.getfield 15, 3) := by decide +kernel
theorem dX4_command_17 : decode cX4_command 17 = .ok (.aload_n 2, 1) := by decide +kernel
theorem dX4_command_18 : decode cX4_command 18 = .ok (.invokevirtual 48, 3) := by decide +kernel
theorem dX4_command_21 : decode cX4_command 21 = .ok (.if_icmp .ne 17, 3) := by decide +kernel
theorem dX4_command_24 : decode cX4_command 24 = .ok (.aload_n 0, 1) := by decide +kernel
theorem dX4_command_25 : decode cX4_command 25 = .ok (.aload_n 2, 1) := by decide +kernel
theorem dX4_command_26 : decode cX4_command 26 = .ok (.invokevirtual 38, 3) := by decide +kernel
theorem dX4_command_29 : decode cX4_command 29 = .ok (.aload_n 0, 1) := by decide +kernel
theorem dX4_command_30 : decode cX4_command 30 = .ok (.getfield 15, 3) := by decide +kernel
theorem dX4_command_33 : decode cX4_command 33 = .ok (.if_icmp .ne 5, 3) := by decide +kernel
theorem dX4_command_36 : decode cX4_command 36 = .ok (.iload_n 1, 1) := by decide +kernel
theorem dX4_command_37 : decode cX4_command 37 = .ok (.ireturn, 1) := by decide +kernel
theorem dX4_command_38 : decode cX4_command 38 = .ok (.iinc 1 1, 3) := by decide +kernel
theorem dX4_command_41 : decode cX4_command 41 = .ok (.goto (-39), 3) := by decide +kernel
theorem dX4_command_44 : decode cX4_command 44 = .ok (.iconst (-1), 1) := by decide +kernel
theorem dX4_command_45 : decode cX4_command 45 = .ok (.ireturn, 1) := by decide +kernel
theorem dX5_crossingSet_0 : decode cX5_crossingSet 0 = .ok (.iconst 0, 1) := by decide +kernel
theorem dX5_crossingSet_1 : decode cX5_crossingSet 1 = .ok (.istore_n 2, 1) := by decide +kernel
theorem dX5_crossingSet_2 : decode cX5_crossingSet 2 = .ok (.iconst 0, 1) := by decide +kernel
theorem dX5_crossingSet_3 : decode cX5_crossingSet 3 = .ok (.istore_n 3, 1) := by decide +kernel
theorem dX5_crossingSet_4 : decode cX5_crossingSet 4 = .ok (.iload_n 3, 1) := by decide +kernel
theorem dX5_crossingSet_5 : decode cX5_crossingSet 5 = .ok (.aload_n 0, 1) := by decide +kernel
theorem dX5_crossingSet_6 : decode cX5_crossingSet 6 = .ok (.getfield 45, 3) := by decide +kernel
theorem dX5_crossingSet_9 : decode cX5_crossingSet 9 = .ok (.if_icmp .ge 29, 3) := by decide +kernel
theorem dX5_crossingSet_12 : decode cX5_crossingSet 12 = .ok (.aload_n 0, 1) := by decide +kernel
theorem dX5_crossingSet_13 : decode cX5_crossingSet 13 = .ok (.iload_n 3, 1) := by decide +kernel
theorem dX5_crossingSet_14 : decode cX5_crossingSet 14 = .ok (.iload_n 1, 1) := by decide +kernel
theorem dX5_crossingSet_15 : decode cX5_crossingSet 15 = .ok (.invokevirtual 48, 3) := by decide +kernel
theorem dX5_crossingSet_18 : decode cX5_crossingSet 18 = .ok (.ifCond .eq 14, 3) := by decide +kernel
theorem dX5_crossingSet_21 : decode cX5_crossingSet 21 = .ok (.iload_n 2, 1) := by decide +kernel
theorem dX5_crossingSet_22 : decode cX5_crossingSet 22 = .ok (.iconst 1, 1) := by decide +kernel
theorem dX5_crossingSet_23 : decode cX5_crossingSet 23 = .ok (.aload_n 0, 1) := by decide +kernel
theorem dX5_crossingSet_24 : decode cX5_crossingSet 24 = .ok (.getfield 51, 3) := by decide +kernel
theorem dX5_crossingSet_27 : decode cX5_crossingSet 27 = .ok (.iload_n 3, 1) := by decide +kernel
theorem dX5_crossingSet_28 : decode cX5_crossingSet 28 = .ok (.iaload, 1) := by decide +kernel
theorem dX5_crossingSet_29 : decode cX5_crossingSet 29 = .ok (.ishl, 1) := by decide +kernel
theorem dX5_crossingSet_30 : decode cX5_crossingSet 30 = .ok (.ior, 1) := by decide +kernel
theorem dX5_crossingSet_31 : decode cX5_crossingSet 31 = .ok (.istore_n 2, 1) := by decide +kernel
theorem dX5_crossingSet_32 : decode cX5_crossingSet 32 = .ok (.iinc 3 1, 3) := by decide +kernel
theorem dX5_crossingSet_35 : decode cX5_crossingSet 35 = .ok (.goto (-31), 3) := by decide +kernel
theorem dX5_crossingSet_38 : decode cX5_crossingSet 38 = .ok (.iload_n 2, 1) := by decide +kernel
theorem dX5_crossingSet_39 : decode cX5_crossingSet 39 = .ok (.ireturn, 1) := by decide +kernel
theorem dX5_isNewZone_0 : decode cX5_isNewZone 0 = .ok (.aload_n 0, 1) := by decide +kernel
theorem dX5_isNewZone_1 : decode cX5_isNewZone 1 = .ok (.getfield 9, 3) := by decide +kernel
theorem dX5_isNewZone_4 : decode cX5_isNewZone 4 = .ok (.iload_n 1, 1) := by decide +kernel
theorem dX5_isNewZone_5 : decode cX5_isNewZone 5 = .ok (.iaload, 1) := by decide +kernel
theorem dX5_isNewZone_6 : decode cX5_isNewZone 6 = .ok (.istore_n 3, 1) := by decide +kernel
theorem dX5_isNewZone_7 : decode cX5_isNewZone 7 = .ok (.iload_n 3, 1) := by decide +kernel
theorem dX5_isNewZone_8 : decode cX5_isNewZone 8 = .ok (.ifCond .ne 5, 3) := by decide +kernel
theorem dX5_isNewZone_11 : decode cX5_isNewZone 11 = .ok (.iconst 0, 1) := by decide +kernel
theorem dX5_isNewZone_12 : decode cX5_isNewZone 12 = .ok (.ireturn, 1) := by decide +kernel
theorem dX5_isNewZone_13 : decode cX5_isNewZone 13 = .ok (.iconst 0, 1) := by decide +kernel
theorem dX5_isNewZone_14 : decode cX5_isNewZone 14 = .ok (.istore 4, 2) := by decide +kernel
theorem dX5_isNewZone_16 : decode cX5_isNewZone 16 = .ok (.iload 4, 2) := by decide +kernel
theorem dX5_isNewZone_18 : decode cX5_isNewZone 18 = .ok (.iload_n 2, 1) := by decide +kernel
theorem dX5_isNewZone_19 : decode cX5_isNewZone 19 = .ok (.if_icmp .ge 71, 3) := by decide +kernel
theorem dX5_isNewZone_22 : decode cX5_isNewZone 22 = .ok (.iload_n 3, 1) := by decide +kernel
theorem dX5_isNewZone_23 : decode cX5_isNewZone 23 = .ok (.aload_n 0, 1) := by decide +kernel
theorem dX5_isNewZone_24 : decode cX5_isNewZone 24 = .ok (.getfield 9, 3) := by decide +kernel
theorem dX5_isNewZone_27 : decode cX5_isNewZone 27 = .ok (.iload 4, 2) := by decide +kernel
theorem dX5_isNewZone_29 : decode cX5_isNewZone 29 = .ok (.iaload, 1) := by decide +kernel
theorem dX5_isNewZone_30 : decode cX5_isNewZone 30 = .ok (.iconst (-1), 1) := by decide +kernel
theorem dX5_isNewZone_31 : decode cX5_isNewZone 31 = .ok (.ixor, 1) := by decide +kernel
theorem dX5_isNewZone_32 : decode cX5_isNewZone 32 = .ok (.iand, 1) := by decide +kernel
theorem dX5_isNewZone_33 : decode cX5_isNewZone 33 = .ok (.ifCond .ne 7, 3) := by decide +kernel
theorem dX5_isNewZone_36 : decode cX5_isNewZone 36 = .ok (.iconst 1, 1) := by decide +kernel
theorem dX5_isNewZone_37 : decode cX5_isNewZone 37 = .ok (.goto 4, 3) := by decide +kernel
theorem dX5_isNewZone_40 : decode cX5_isNewZone 40 = .ok (.iconst 0, 1) := by decide +kernel
theorem dX5_isNewZone_41 : decode cX5_isNewZone 41 = .ok (.istore 5, 2) := by decide +kernel
theorem dX5_isNewZone_43 : decode cX5_isNewZone 43 = .ok (.iload_n 3, 1) := by decide +kernel
theorem dX5_isNewZone_44 : decode cX5_isNewZone 44 = .ok (.aload_n 0, 1) := by decide +kernel
theorem dX5_isNewZone_45 : decode cX5_isNewZone 45 = .ok (.getfield 9, 3) := by decide +kernel
theorem dX5_isNewZone_48 : decode cX5_isNewZone 48 = .ok (.iload 4, 2) := by decide +kernel
theorem dX5_isNewZone_50 : decode cX5_isNewZone 50 = .ok (.iaload, 1) := by decide +kernel
theorem dX5_isNewZone_51 : decode cX5_isNewZone 51 = .ok (.if_icmp .ne 7, 3) := by decide +kernel
theorem dX5_isNewZone_54 : decode cX5_isNewZone 54 = .ok (.iconst 1, 1) := by decide +kernel
theorem dX5_isNewZone_55 : decode cX5_isNewZone 55 = .ok (.goto 4, 3) := by decide +kernel
theorem dX5_isNewZone_58 : decode cX5_isNewZone 58 = .ok (.iconst 0, 1) := by decide +kernel
theorem dX5_isNewZone_59 : decode cX5_isNewZone 59 = .ok (.istore 6, 2) := by decide +kernel
theorem dX5_isNewZone_61 : decode cX5_isNewZone 61 = .ok (.iload 5, 2) := by decide +kernel
theorem dX5_isNewZone_63 : decode cX5_isNewZone 63 = .ok (.ifCond .eq 8, 3) := by decide +kernel
theorem dX5_isNewZone_66 : decode cX5_isNewZone 66 = .ok (.iload 6, 2) := by decide +kernel
theorem dX5_isNewZone_68 : decode cX5_isNewZone 68 = .ok (.ifCond .eq 14, 3) := by decide +kernel
theorem dX5_isNewZone_71 : decode cX5_isNewZone 71 = .ok (.iload 6, 2) := by decide +kernel
theorem dX5_isNewZone_73 : decode cX5_isNewZone 73 = .ok (.ifCond .eq 11, 3) := by decide +kernel
theorem dX5_isNewZone_76 : decode cX5_isNewZone 76 = .ok (.iload 4, 2) := by decide +kernel
theorem dX5_isNewZone_78 : decode cX5_isNewZone 78 = .ok (.iload_n 1, 1) := by decide +kernel
theorem dX5_isNewZone_79 : decode cX5_isNewZone 79 = .ok (.if_icmp .ge 5, 3) := by decide +kernel
theorem dX5_isNewZone_82 : decode cX5_isNewZone 82 = .ok (.iconst 0, 1) := by decide +kernel
theorem dX5_isNewZone_83 : decode cX5_isNewZone 83 = .ok (.ireturn, 1) := by decide +kernel
theorem dX5_isNewZone_84 : decode cX5_isNewZone 84 = .ok (.iinc 4 1, 3) := by decide +kernel
theorem dX5_isNewZone_87 : decode cX5_isNewZone 87 = .ok (.goto (-71), 3) := by decide +kernel
theorem dX5_isNewZone_90 : decode cX5_isNewZone 90 = .ok (.iconst 1, 1) := by decide +kernel
theorem dX5_isNewZone_91 : decode cX5_isNewZone 91 = .ok (.ireturn, 1) := by decide +kernel
theorem dX5_find_0 : decode cX5_find 0 = .ok (.aload_n 0, 1) := by decide +kernel
theorem dX5_find_1 : decode cX5_find 1 = .ok (.iconst 0, 1) := by decide +kernel
theorem dX5_find_2 : decode cX5_find 2 = .ok (.putfield 18, 3) := by decide +kernel
theorem dX5_find_5 : decode cX5_find 5 = .ok (.iconst 0, 1) := by decide +kernel
theorem dX5_find_6 : decode cX5_find 6 = .ok (.istore_n 3, 1) := by decide +kernel
theorem dX5_find_7 : decode cX5_find 7 = .ok (.iload_n 3, 1) := by decide +kernel
theorem dX5_find_8 : decode cX5_find 8 = .ok (.iload_n 2, 1) := by decide +kernel
theorem dX5_find_9 : decode cX5_find 9 = .ok (.if_icmp .ge 40, 3) := by decide +kernel
theorem dX5_find_12 : decode cX5_find 12 = .ok (.aload_n 0, 1) := by decide +kernel
theorem dX5_find_13 : decode cX5_find 13 = .ok (.getfield 9, 3) := by decide +kernel
theorem dX5_find_16 : decode cX5_find 16 = .ok (.iload_n 3, 1) := by decide +kernel
theorem dX5_find_17 : decode cX5_find 17 = .ok (.aload_n 1, 1) := by decide +kernel
theorem dX5_find_18 : decode cX5_find 18 = .ok (.iload_n 3, 1) := by decide +kernel
theorem dX5_find_19 : decode cX5_find 19 = .ok (.invokestatic 22, 3) := by decide +kernel
theorem dX5_find_22 : decode cX5_find 22 = .ok (.iastore, 1) := by decide +kernel
theorem dX5_find_23 : decode cX5_find 23 = .ok (.aload_n 0, 1) := by decide +kernel
theorem dX5_find_24 : decode cX5_find 24 = .ok (.aload_n 0, 1) := by decide +kernel
theorem dX5_find_25 : decode cX5_find 25 = .ok (.getfield 18, 3) := by decide +kernel
theorem dX5_find_28 : decode cX5_find 28 = .ok (.aload_n 0, 1) := by decide +kernel
theorem dX5_find_29 : decode cX5_find 29 = .ok (.getfield 9, 3) := by decide +kernel
theorem dX5_find_32 : decode cX5_find 32 = .ok (.iload_n 3, 1) := by decide +kernel
theorem dX5_find_33 : decode cX5_find 33 = .ok (.iaload, 1) := by decide +kernel
theorem dX5_find_34 : decode cX5_find 34 = .ok (.invokestatic 26, 3) := by decide +kernel
theorem dX5_find_37 : decode cX5_find 37 = .ok (.invokestatic 32, 3) := by decide +kernel
theorem dX5_find_40 : decode cX5_find 40 = .ok (.putfield 18, 3) := by decide +kernel
theorem dX5_find_43 : decode cX5_find 43 = .ok (.iinc 3 1, 3) := by decide +kernel
theorem dX5_find_46 : decode cX5_find 46 = .ok (.goto (-39), 3) := by decide +kernel
theorem dX5_find_49 : decode cX5_find 49 = .ok (.aload_n 0, 1) := by decide +kernel
theorem dX5_find_50 : decode cX5_find 50 = .ok (.iconst 0, 1) := by decide +kernel
theorem dX5_find_51 : decode cX5_find 51 = .ok (.putfield 38, 3) := by decide +kernel
theorem dX5_find_54 : decode cX5_find 54 = .ok (.iconst 0, 1) := by decide +kernel
theorem dX5_find_55 : decode cX5_find 55 = .ok (.istore_n 3, 1) := by decide +kernel
theorem dX5_find_56 : decode cX5_find 56 = .ok (.iload_n 3, 1) := by decide +kernel
theorem dX5_find_57 : decode cX5_find 57 = .ok (.iload_n 2, 1) := by decide +kernel
theorem dX5_find_58 : decode cX5_find 58 = .ok (.if_icmp .ge 43, 3) := by decide +kernel
theorem dX5_find_61 : decode cX5_find 61 = .ok (.aload_n 0, 1) := by decide +kernel
theorem dX5_find_62 : decode cX5_find 62 = .ok (.iload_n 3, 1) := by decide +kernel
theorem dX5_find_63 : decode cX5_find 63 = .ok (.iload_n 2, 1) := by decide +kernel
theorem dX5_find_64 : decode cX5_find 64 = .ok (.invokevirtual 41, 3) := by decide +kernel
theorem dX5_find_67 : decode cX5_find 67 = .ok (.ifCond .eq 28, 3) := by decide +kernel
theorem dX5_find_70 : decode cX5_find 70 = .ok (.aload_n 0, 1) := by decide +kernel
theorem dX5_find_71 : decode cX5_find 71 = .ok (.getfield 15, 3) := by decide +kernel
theorem dX5_find_74 : decode cX5_find 74 = .ok (.aload_n 0, 1) := by decide +kernel
theorem dX5_find_75 : decode cX5_find 75 = .ok (.getfield 38, 3) := by decide +kernel
theorem dX5_find_78 : decode cX5_find 78 = .ok (.aload_n 0, 1) := by decide +kernel
theorem dX5_find_79 : decode cX5_find 79 = .ok (.getfield 9, 3) := by decide +kernel
theorem dX5_find_82 : decode cX5_find 82 = .ok (.iload_n 3, 1) := by decide +kernel
theorem dX5_find_83 : decode cX5_find 83 = .ok (.iaload, 1) := by decide +kernel
theorem dX5_find_84 : decode cX5_find 84 = .ok (.iastore, 1) := by decide +kernel
theorem dX5_find_85 : decode cX5_find 85 = .ok (.aload_n 0, 1) := by decide +kernel
theorem dX5_find_86 : decode cX5_find 86 = .ok (.dup, 1) := by decide +kernel
theorem dX5_find_87 : decode cX5_find 87 = .ok (.getfield 38, 3) := by decide +kernel
theorem dX5_find_90 : decode cX5_find 90 = .ok (.iconst 1, 1) := by decide +kernel
theorem dX5_find_91 : decode cX5_find 91 = .ok (.iadd, 1) := by decide +kernel
theorem dX5_find_92 : decode cX5_find 92 = .ok (.putfield 38, 3) := by decide +kernel
theorem dX5_find_95 : decode cX5_find 95 = .ok (.iinc 3 1, 3) := by decide +kernel
theorem dX5_find_98 : decode cX5_find 98 = .ok (.goto (-42), 3) := by decide +kernel
theorem dX5_find_101 : decode cX5_find 101 = .ok (.return_, 1) := by decide +kernel
theorem dX6_letter_0 : decode cX6_letter 0 = .ok (.iload_n 1, 1) := by decide +kernel
theorem dX6_letter_1 : decode cX6_letter 1 = .ok (.bipush 32, 2) := by decide +kernel
theorem dX6_letter_3 : decode cX6_letter 3 = .ok (.if_icmp .lt 9, 3) := by decide +kernel
theorem dX6_letter_6 : decode cX6_letter 6 = .ok (.iload_n 1, 1) := by decide +kernel
theorem dX6_letter_7 : decode cX6_letter 7 = .ok (.bipush 126, 2) := by decide +kernel
theorem dX6_letter_9 : decode cX6_letter 9 = .ok (.if_icmp .le 6, 3) := by decide +kernel
theorem dX6_letter_12 : decode cX6_letter 12 = .ok (.bipush (-102), 2) := by decide +kernel
theorem dX6_letter_14 : decode cX6_letter 14 = .ok (.ireturn, 1) := by decide +kernel
theorem dX6_letter_15 : decode cX6_letter 15 = .ok (.aload_n 0, 1) := by decide +kernel
theorem dX6_letter_16 : decode cX6_letter 16 = .ok (.getfield 10, 3) := by decide +kernel
theorem dX6_letter_19 : decode cX6_letter 19 = .ok (.getfield 54, 3) := by decide +kernel
theorem dX6_letter_22 : decode cX6_letter 22 = .ok (.bipush 20, 2) := by decide +kernel
theorem dX6_letter_24 : decode cX6_letter 24 = .ok (.if_icmp .lt 6, 3) := by decide +kernel
theorem dX6_letter_27 : decode cX6_letter 27 = .ok (.bipush (-104), 2) := by decide +kernel
theorem dX6_letter_29 : decode cX6_letter 29 = .ok (.ireturn, 1) := by decide +kernel
theorem dX6_letter_30 : decode cX6_letter 30 = .ok (.aload_n 0, 1) := by decide +kernel
theorem dX6_letter_31 : decode cX6_letter 31 = .ok (.getfield 10, 3) := by decide +kernel
theorem dX6_letter_34 : decode cX6_letter 34 = .ok (.iload_n 1, 1) := by decide +kernel
theorem dX6_letter_35 : decode cX6_letter 35 = .ok (.invokevirtual 58, 3) := by decide +kernel
theorem dX6_letter_38 : decode cX6_letter 38 = .ok (.aload_n 0, 1) := by decide +kernel
theorem dX6_letter_39 : decode cX6_letter 39 = .ok (.getfield 10, 3) := by decide +kernel
theorem dX6_letter_42 : decode cX6_letter 42 = .ok (.getfield 54, 3) := by decide +kernel
theorem dX6_letter_45 : decode cX6_letter 45 = .ok (.ireturn, 1) := by decide +kernel
theorem dX6_blank_0 : decode cX6_blank 0 = .ok (.aload_n 0, 1) := by decide +kernel
theorem dX6_blank_1 : decode cX6_blank 1 = .ok (.getfield 10, 3) := by decide +kernel
theorem dX6_blank_4 : decode cX6_blank 4 = .ok (.getfield 54, 3) := by decide +kernel
theorem dX6_blank_7 : decode cX6_blank 7 = .ok (.istore_n 1, 1) := by decide +kernel
theorem dX6_blank_8 : decode cX6_blank 8 = .ok (.aload_n 0, 1) := by decide +kernel
theorem dX6_blank_9 : decode cX6_blank 9 = .ok (.getfield 10, 3) := by decide +kernel
theorem dX6_blank_12 : decode cX6_blank 12 = .ok (.iconst 0, 1) := by decide +kernel
theorem dX6_blank_13 : decode cX6_blank 13 = .ok (.putfield 54, 3) := by decide +kernel
theorem dX6_blank_16 : decode cX6_blank 16 = .ok (.iload_n 1, 1) := by decide +kernel
theorem dX6_blank_17 : decode cX6_blank 17 = .ok (.ireturn, 1) := by decide +kernel
theorem dX6_fault_0 : decode cX6_fault 0 = .ok (.iload_n 1, 1) := by decide +kernel
theorem dX6_fault_1 : decode cX6_fault 1 = .ok (.ifCond .ne 11, 3) := by decide +kernel
theorem dX6_fault_4 : decode cX6_fault 4 = .ok (.aload_n 0, 1) := by decide +kernel
theorem dX6_fault_5 : decode cX6_fault 5 = .ok (.getfield 10, 3) := by decide +kernel
theorem dX6_fault_8 : decode cX6_fault 8 = .ok (.invokevirtual 62, 3) := by decide +kernel
theorem dX6_fault_11 : decode cX6_fault 11 = .ok (.ireturn, 1) := by decide +kernel
theorem dX6_fault_12 : decode cX6_fault 12 = .ok (.iload_n 1, 1) := by decide +kernel
theorem dX6_fault_13 : decode cX6_fault 13 = .ok (.iconst 1, 1) := by decide +kernel
theorem dX6_fault_14 : decode cX6_fault 14 = .ok (.if_icmp .ne 11, 3) := by decide +kernel
theorem dX6_fault_17 : decode cX6_fault 17 = .ok (.aload_n 0, 1) := by decide +kernel
theorem dX6_fault_18 : decode cX6_fault 18 = .ok (.getfield 10, 3) := by decide +kernel
theorem dX6_fault_21 : decode cX6_fault 21 = .ok (.invokevirtual 66, 3) := by decide +kernel
theorem dX6_fault_24 : decode cX6_fault 24 = .ok (.ireturn, 1) := by decide +kernel
theorem dX6_fault_25 : decode cX6_fault 25 = .ok (.bipush (-102), 2) := by decide +kernel
theorem dX6_fault_27 : decode cX6_fault 27 = .ok (.ireturn, 1) := by decide +kernel
theorem dX6_derive_0 : decode cX6_derive 0 = .ok (.aload_n 0, 1) := by decide +kernel
theorem dX6_derive_1 : decode cX6_derive 1 = .ok (.getfield 26, 3) := by decide +kernel
theorem dX6_derive_4 : decode cX6_derive 4 = .ok (.aload_n 0, 1) := by decide +kernel
theorem dX6_derive_5 : decode cX6_derive 5 = .ok (.getfield 19, 3) := by decide +kernel
theorem dX6_derive_8 : decode cX6_derive 8 = .ok (.aload_n 0, 1) := by decide +kernel
theorem dX6_derive_9 : decode cX6_derive 9 = .ok (.getfield 83, 3) := by decide +kernel
theorem dX6_derive_12 : decode cX6_derive 12 = .ok (.invokevirtual 307, 3) := by decide +kernel
theorem dX6_derive_15 : decode cX6_derive 15 = .ok (.aload_n 0, 1) := by decide +kernel
theorem dX6_derive_16 : decode cX6_derive 16 = .ok (.getfield 36, 3) := by decide +kernel
theorem dX6_derive_19 : decode cX6_derive 19 = .ok (.aload_n 0, 1) := by decide +kernel
theorem dX6_derive_20 : decode cX6_derive 20 = .ok (.getfield 26, 3) := by decide +kernel
theorem dX6_derive_23 : decode cX6_derive 23 = .ok (.invokevirtual 311, 3) := by decide +kernel
theorem dX6_derive_26 : decode cX6_derive 26 = .ok (.aload_n 0, 1) := by decide +kernel
theorem dX6_derive_27 : decode cX6_derive 27 = .ok (.getfield 43, 3) := by decide +kernel
theorem dX6_derive_30 : decode cX6_derive 30 = .ok (.aload_n 0, 1) := by decide +kernel
theorem dX6_derive_31 : decode cX6_derive 31 = .ok (.getfield 26, 3) := by decide +kernel
theorem dX6_derive_34 : decode cX6_derive 34 = .ok (.aload_n 0, 1) := by decide +kernel
theorem dX6_derive_35 : decode cX6_derive 35 = .ok (.getfield 19, 3) := by decide +kernel
theorem dX6_derive_38 : decode cX6_derive 38 = .ok (.getfield 72, 3) := by decide +kernel
theorem dX6_derive_41 : decode cX6_derive 41 = .ok (.invokevirtual 314, 3) := by decide +kernel
theorem dX6_derive_44 : decode cX6_derive 44 = .ok (.aload_n 0, 1) := by decide +kernel
theorem dX6_derive_45 : decode cX6_derive 45 = .ok (.getfield 50, 3) := by decide +kernel
theorem dX6_derive_48 : decode cX6_derive 48 = .ok (.invokevirtual 234, 3) := by decide +kernel
theorem dX6_derive_51 : decode cX6_derive 51 = .ok (.return_, 1) := by decide +kernel
theorem dX6_channel_0 : decode cX6_channel 0 = .ok (.aload_n 0, 1) := by decide +kernel
theorem dX6_channel_1 : decode cX6_channel 1 = .ok (.getfield 10, 3) := by decide +kernel
theorem dX6_channel_4 : decode cX6_channel 4 = .ok (.invokevirtual 69, 3) := by decide +kernel
theorem dX6_channel_7 : decode cX6_channel 7 = .ok (.istore_n 1, 1) := by decide +kernel
theorem dX6_channel_8 : decode cX6_channel 8 = .ok (.iload_n 1, 1) := by decide +kernel
theorem dX6_channel_9 : decode cX6_channel 9 = .ok (.iconst (-1), 1) := by decide +kernel
theorem dX6_channel_10 : decode cX6_channel 10 = .ok (.if_icmp .ne 6, 3) := by decide +kernel
theorem dX6_channel_13 : decode cX6_channel 13 = .ok (.bipush (-103), 2) := by decide +kernel
theorem dX6_channel_15 : decode cX6_channel 15 = .ok (.ireturn, 1) := by decide +kernel
theorem dX6_channel_16 : decode cX6_channel 16 = .ok (.aload_n 0, 1) := by decide +kernel
theorem dX6_channel_17 : decode cX6_channel 17 = .ok (.getfield 19, 3) := by decide +kernel
theorem dX6_channel_20 : decode cX6_channel 20 = .ok (.iload_n 1, 1) := by decide +kernel
theorem dX6_channel_21 : decode cX6_channel 21 = .ok (.putfield 72, 3) := by decide +kernel
theorem dX6_channel_24 : decode cX6_channel 24 = .ok (.iconst 0, 1) := by decide +kernel
theorem dX6_channel_25 : decode cX6_channel 25 = .ok (.istore_n 2, 1) := by decide +kernel
theorem dX6_channel_26 : decode cX6_channel 26 = .ok (.iload_n 2, 1) := by decide +kernel
theorem dX6_channel_27 : decode cX6_channel 27 = .ok (.iload_n 1, 1) := by decide +kernel
theorem dX6_channel_28 : decode cX6_channel 28 = .ok (.if_icmp .ge 47, 3) := by decide +kernel
theorem dX6_channel_31 : decode cX6_channel 31 = .ok (.aload_n 0, 1) := by decide +kernel
theorem dX6_channel_32 : decode cX6_channel 32 = .ok (.getfield 19, 3) := by decide +kernel
theorem dX6_channel_35 : decode cX6_channel 35 = .ok (.iload_n 2, 1) := by decide +kernel
theorem dX6_channel_36 : decode cX6_channel 36 = .ok (.iconst 0, 1) := by decide +kernel
theorem dX6_channel_37 : decode cX6_channel 37 = .ok (.aload_n 0, 1) := by decide +kernel
theorem dX6_channel_38 : decode cX6_channel 38 = .ok (.getfield 10, 3) := by decide +kernel
theorem dX6_channel_41 : decode cX6_channel 41 = .ok (.iload_n 2, 1) := by decide +kernel
theorem dX6_channel_42 : decode cX6_channel 42 = .ok (.invokevirtual 75, 3) := by decide +kernel
theorem dX6_channel_45 : decode cX6_channel 45 = .ok (.invokevirtual 79, 3) := by decide +kernel
theorem dX6_channel_48 : decode cX6_channel 48 = .ok (.aload_n 0, 1) := by decide +kernel
theorem dX6_channel_49 : decode cX6_channel 49 = .ok (.getfield 19, 3) := by decide +kernel
theorem dX6_channel_52 : decode cX6_channel 52 = .ok (.iload_n 2, 1) := by decide +kernel
theorem dX6_channel_53 : decode cX6_channel 53 = .ok (.iconst 1, 1) := by decide +kernel
theorem dX6_channel_54 : decode cX6_channel 54 = .ok (.aload_n 0, 1) := by decide +kernel
theorem dX6_channel_55 : decode cX6_channel 55 = .ok (.getfield 10, 3) := by decide +kernel
theorem dX6_channel_58 : decode cX6_channel 58 = .ok (.iload_n 1, 1) := by decide +kernel
theorem dX6_channel_59 : decode cX6_channel 59 = .ok (.iconst 1, 1) := by decide +kernel
theorem dX6_channel_60 : decode cX6_channel 60 = .ok (.iadd, 1) := by decide +kernel
theorem dX6_channel_61 : decode cX6_channel 61 = .ok (.iload_n 2, 1) := by decide +kernel
theorem dX6_channel_62 : decode cX6_channel 62 = .ok (.iadd, 1) := by decide +kernel
theorem dX6_channel_63 : decode cX6_channel 63 = .ok (.invokevirtual 75, 3) := by decide +kernel
theorem dX6_channel_66 : decode cX6_channel 66 = .ok (.invokevirtual 79, 3) := by decide +kernel
theorem dX6_channel_69 : decode cX6_channel 69 = .ok (.iinc 2 1, 3) := by decide +kernel
theorem dX6_channel_72 : decode cX6_channel 72 = .ok (.goto (-46), 3) := by decide +kernel
theorem dX6_channel_75 : decode cX6_channel 75 = .ok (.aload_n 0, 1) := by decide +kernel
theorem dX6_channel_76 : decode cX6_channel 76 = .ok (.iconst 0, 1) := by decide +kernel
theorem dX6_channel_77 : decode cX6_channel 77 = .ok (.putfield 83, 3) := by decide +kernel
theorem dX6_channel_80 : decode cX6_channel 80 = .ok (.aload_n 0, 1) := by decide +kernel
theorem dX6_channel_81 : decode cX6_channel 81 = .ok (.invokevirtual 86, 3) := by decide +kernel
theorem dX6_channel_84 : decode cX6_channel 84 = .ok (.aload_n 0, 1) := by decide +kernel
theorem dX6_channel_85 : decode cX6_channel 85 = .ok (.getfield 10, 3) := by decide +kernel
theorem dX6_channel_88 : decode cX6_channel 88 = .ok (.iconst 0, 1) := by decide +kernel
theorem dX6_channel_89 : decode cX6_channel 89 = .ok (.putfield 54, 3) := by decide +kernel
theorem dX6_channel_92 : decode cX6_channel 92 = .ok (.aload_n 0, 1) := by decide +kernel
theorem dX6_channel_93 : decode cX6_channel 93 = .ok (.dup, 1) := by decide +kernel
theorem dX6_channel_94 : decode cX6_channel 94 = .ok (.getfield 89, 3) := by decide +kernel
theorem dX6_channel_97 : decode cX6_channel 97 = .ok (.iconst 1, 1) := by decide +kernel
theorem dX6_channel_98 : decode cX6_channel 98 = .ok (.iadd, 1) := by decide +kernel
theorem dX6_channel_99 : decode cX6_channel 99 = .ok (.putfield 89, 3) := by decide +kernel
theorem dX6_channel_102 : decode cX6_channel 102 = .ok (.iload_n 1, 1) := by decide +kernel
theorem dX6_channel_103 : decode cX6_channel 103 = .ok (.ireturn, 1) := by decide +kernel
theorem dX6_hasChannel_0 : decode cX6_hasChannel 0 = .ok (.aload_n 0, 1) := by decide +kernel
theorem dX6_hasChannel_1 : decode cX6_hasChannel 1 = .ok (.getfield 19, 3) := by decide +kernel
theorem dX6_hasChannel_4 : decode cX6_hasChannel 4 = .ok (.getfield 72, 3) := by decide +kernel
theorem dX6_hasChannel_7 : decode cX6_hasChannel 7 = .ok (.ifCond .le 7, 3) := by decide +kernel
theorem dX6_hasChannel_10 : decode cX6_hasChannel 10 = .ok (.iconst 1, 1) := by decide +kernel
theorem dX6_hasChannel_11 : decode cX6_hasChannel 11 = .ok (.goto 4, 3) := by decide +kernel
theorem dX6_hasChannel_14 : decode cX6_hasChannel 14 = .ok (.iconst 0, 1) := by decide +kernel
theorem dX6_hasChannel_15 : decode cX6_hasChannel 15 = .ok (.ireturn, 1) := by decide +kernel
theorem dX6_pack_0 : decode cX6_pack 0 = .ok (.aload_n 0, 1) := by decide +kernel
theorem dX6_pack_1 : decode cX6_pack 1 = .ok (.invokevirtual 118, 3) := by decide +kernel
theorem dX6_pack_4 : decode cX6_pack 4 = .ok (.ifCond .eq 13, 3) := by decide +kernel
theorem dX6_pack_7 : decode cX6_pack 7 = .ok (.aload_n 0, 1) := by decide +kernel
theorem dX6_pack_8 : decode cX6_pack 8 = .ok (.getfield 26, 3) := by decide +kernel
theorem dX6_pack_11 : decode cX6_pack 11 = .ok (.invokevirtual 237, 3) := by decide +kernel
theorem dX6_pack_14 : decode cX6_pack 14 = .ok (.ifCond .eq 6, 3) := by decide +kernel
theorem dX6_pack_17 : decode cX6_pack 17 = .ok (.bipush (-103), 2) := by decide +kernel
theorem dX6_pack_19 : decode cX6_pack 19 = .ok (.ireturn, 1) := by decide +kernel
theorem dX6_pack_20 : decode cX6_pack 20 = .ok (.aload_n 0, 1) := by decide +kernel
theorem dX6_pack_21 : decode cX6_pack 21 = .ok (.getfield 50, 3) := by decide +kernel
theorem dX6_pack_24 : decode cX6_pack 24 = .ok (.aload_n 0, 1) := by decide +kernel
theorem dX6_pack_25 : decode cX6_pack 25 = .ok (.getfield 26, 3) := by decide +kernel
theorem dX6_pack_28 : decode cX6_pack 28 = .ok (.invokevirtual 240, 3) := by decide +kernel
theorem dX6_pack_31 : decode cX6_pack 31 = .ok (.aload_n 0, 1) := by decide +kernel
theorem dX6_pack_32 : decode cX6_pack 32 = .ok (.getfield 50, 3) := by decide +kernel
theorem dX6_pack_35 : decode cX6_pack 35 = .ok (.invokevirtual 122, 3) := by decide +kernel
theorem dX6_pack_38 : decode cX6_pack 38 = .ok (.ireturn, 1) := by decide +kernel
theorem dX6_best_0 : decode cX6_best 0 = .ok (.aload_n 0, 1) := by decide +kernel
theorem dX6_best_1 : decode cX6_best 1 = .ok (.invokevirtual 118, 3) := by decide +kernel
theorem dX6_best_4 : decode cX6_best 4 = .ok (.ifCond .eq 13, 3) := by decide +kernel
theorem dX6_best_7 : decode cX6_best 7 = .ok (.aload_n 0, 1) := by decide +kernel
theorem dX6_best_8 : decode cX6_best 8 = .ok (.getfield 26, 3) := by decide +kernel
theorem dX6_best_11 : decode cX6_best 11 = .ok (.invokevirtual 237, 3) := by decide +kernel
theorem dX6_best_14 : decode cX6_best 14 = .ok (.ifCond .eq 6, 3) := by decide +kernel
theorem dX6_best_17 : decode cX6_best 17 = .ok (.bipush (-103), 2) := by decide +kernel
theorem dX6_best_19 : decode cX6_best 19 = .ok (.ireturn, 1) := by decide +kernel
theorem dX6_best_20 : decode cX6_best 20 = .ok (.aload_n 0, 1) := by decide +kernel
theorem dX6_best_21 : decode cX6_best 21 = .ok (.getfield 26, 3) := by decide +kernel
theorem dX6_best_24 : decode cX6_best 24 = .ok (.getfield 132, 3) := by decide +kernel
theorem dX6_best_27 : decode cX6_best 27 = .ok (.bipush 8, 2) := by decide +kernel
theorem dX6_best_29 : decode cX6_best 29 = .ok (.if_icmp .gt 12, 3) := by decide +kernel
theorem dX6_best_32 : decode cX6_best 32 = .ok (.aload_n 0, 1) := by decide +kernel
theorem dX6_best_33 : decode cX6_best 33 = .ok (.getfield 244, 3) := by decide +kernel
theorem dX6_best_36 : decode cX6_best 36 = .ok (.bipush 20, 2) := by decide +kernel
theorem dX6_best_38 : decode cX6_best 38 = .ok (.if_icmp .lt 6, 3) := by decide +kernel
theorem dX6_best_41 : decode cX6_best 41 = .ok (.bipush (-103), 2) := by decide +kernel
theorem dX6_best_43 : decode cX6_best 43 = .ok (.ireturn, 1) := by decide +kernel
theorem dX6_best_44 : decode cX6_best 44 = .ok (.aload_n 0, 1) := by decide +kernel
theorem dX6_best_45 : decode cX6_best 45 = .ok (.getfield 50, 3) := by decide +kernel
theorem dX6_best_48 : decode cX6_best 48 = .ok (.aload_n 0, 1) := by decide +kernel
theorem dX6_best_49 : decode cX6_best 49 = .ok (.getfield 26, 3) := by decide +kernel
theorem dX6_best_52 : decode cX6_best 52 = .ok (.aload_n 0, 1) := by decide +kernel
theorem dX6_best_53 : decode cX6_best 53 = .ok (.getfield 26, 3) := by decide +kernel
theorem dX6_best_56 : decode cX6_best 56 = .ok (.getfield 138, 3) := by decide +kernel
theorem dX6_best_59 : decode cX6_best 59 = .ok (.aload_n 0, 1) := by decide +kernel
theorem dX6_best_60 : decode cX6_best 60 = .ok (.getfield 43, 3) := by decide +kernel
theorem dX6_best_63 : decode cX6_best 63 = .ok (.getfield 135, 3) := by decide +kernel
theorem dX6_best_66 : decode cX6_best 66 = .ok (.invokestatic 247, 3) := by decide +kernel
theorem dX6_best_69 : decode cX6_best 69 = .ok (.invokevirtual 252, 3) := by decide +kernel
theorem dX6_best_72 : decode cX6_best 72 = .ok (.aload_n 0, 1) := by decide +kernel
theorem dX6_best_73 : decode cX6_best 73 = .ok (.dup, 1) := by decide +kernel
theorem dX6_best_74 : decode cX6_best 74 = .ok (.getfield 244, 3) := by decide +kernel
theorem dX6_best_77 : decode cX6_best 77 = .ok (.iconst 1, 1) := by decide +kernel
theorem dX6_best_78 : decode cX6_best 78 = .ok (.iadd, 1) := by decide +kernel
theorem dX6_best_79 : decode cX6_best 79 = .ok (.putfield 244, 3) := by decide +kernel
theorem dX6_best_82 : decode cX6_best 82 = .ok (.aload_n 0, 1) := by decide +kernel
theorem dX6_best_83 : decode cX6_best 83 = .ok (.getfield 50, 3) := by decide +kernel
theorem dX6_best_86 : decode cX6_best 86 = .ok (.invokevirtual 122, 3) := by decide +kernel
theorem dX6_best_89 : decode cX6_best 89 = .ok (.ireturn, 1) := by decide +kernel
theorem dX6_clear_0 : decode cX6_clear 0 = .ok (.aload_n 0, 1) := by decide +kernel
theorem dX6_clear_1 : decode cX6_clear 1 = .ok (.invokevirtual 118, 3) := by decide +kernel
theorem dX6_clear_4 : decode cX6_clear 4 = .ok (.ifCond .ne 6, 3) := by decide +kernel
theorem dX6_clear_7 : decode cX6_clear 7 = .ok (.bipush (-103), 2) := by decide +kernel
theorem dX6_clear_9 : decode cX6_clear 9 = .ok (.ireturn, 1) := by decide +kernel
theorem dX6_clear_10 : decode cX6_clear 10 = .ok (.aload_n 0, 1) := by decide +kernel
theorem dX6_clear_11 : decode cX6_clear 11 = .ok (.getfield 50, 3) := by decide +kernel
theorem dX6_clear_14 : decode cX6_clear 14 = .ok (.invokevirtual 231, 3) := by decide +kernel
theorem dX6_clear_17 : decode cX6_clear 17 = .ok (.istore_n 1, 1) := by decide +kernel
theorem dX6_clear_18 : decode cX6_clear 18 = .ok (.aload_n 0, 1) := by decide +kernel
theorem dX6_clear_19 : decode cX6_clear 19 = .ok (.getfield 50, 3) := by decide +kernel
theorem dX6_clear_22 : decode cX6_clear 22 = .ok (.invokevirtual 234, 3) := by decide +kernel
theorem dX6_clear_25 : decode cX6_clear 25 = .ok (.iload_n 1, 1) := by decide +kernel
theorem dX6_clear_26 : decode cX6_clear 26 = .ok (.ireturn, 1) := by decide +kernel
theorem dX6_isNet_0 : decode cX6_isNet 0 = .ok (.iload_n 0, 1) := by decide +kernel
theorem dX6_isNet_1 : decode cX6_isNet 1 = .ok (.ifCond .lt 13, 3) := by decide +kernel
theorem dX6_isNet_4 : decode cX6_isNet 4 = .ok (.iload_n 0, 1) := by decide +kernel
theorem dX6_isNet_5 : decode cX6_isNet 5 = .ok (.bipush 6, 2) := by decide +kernel
theorem dX6_isNet_7 : decode cX6_isNet 7 = .ok (.if_icmp .ge 7, 3) := by decide +kernel
theorem dX6_isNet_10 : decode cX6_isNet 10 = .ok (.iconst 1, 1) := by decide +kernel
theorem dX6_isNet_11 : decode cX6_isNet 11 = .ok (.goto 4, 3) := by decide +kernel
theorem dX6_isNet_14 : decode cX6_isNet 14 = .ok (.iconst 0, 1) := by decide +kernel
theorem dX6_isNet_15 : decode cX6_isNet 15 = .ok (.ireturn, 1) := by decide +kernel
theorem dX6_isSplit_0 : decode cX6_isSplit 0 = .ok (.aload_n 0, 1) := by decide +kernel
theorem dX6_isSplit_1 : decode cX6_isSplit 1 = .ok (.getfield 83, 3) := by decide +kernel
theorem dX6_isSplit_4 : decode cX6_isSplit 4 = .ok (.iconst 1, 1) := by decide +kernel
theorem dX6_isSplit_5 : decode cX6_isSplit 5 = .ok (.iload_n 1, 1) := by decide +kernel
theorem dX6_isSplit_6 : decode cX6_isSplit 6 = .ok (.ishl, 1) := by decide +kernel
theorem dX6_isSplit_7 : decode cX6_isSplit 7 = .ok (.iand, 1) := by decide +kernel
theorem dX6_isSplit_8 : decode cX6_isSplit 8 = .ok (.ifCond .eq 7, 3) := by decide +kernel
theorem dX6_isSplit_11 : decode cX6_isSplit 11 = .ok (.iconst 1, 1) := by decide +kernel
theorem dX6_isSplit_12 : decode cX6_isSplit 12 = .ok (.goto 4, 3) := by decide +kernel
theorem dX6_isSplit_15 : decode cX6_isSplit 15 = .ok (.iconst 0, 1) := by decide +kernel
theorem dX6_isSplit_16 : decode cX6_isSplit 16 = .ok (.ireturn, 1) := by decide +kernel
theorem dX6_cut_0 : decode cX6_cut 0 = .ok (.aload_n 0, 1) := by decide +kernel
theorem dX6_cut_1 : decode cX6_cut 1 = .ok (.invokevirtual 118, 3) := by decide +kernel
theorem dX6_cut_4 : decode cX6_cut 4 = .ok (.ifCond .eq 10, 3) := by decide +kernel
theorem dX6_cut_7 : decode cX6_cut 7 = .ok (.iload_n 1, 1) := by decide +kernel
theorem dX6_cut_8 : decode cX6_cut 8 = .ok (.invokestatic 164, 3) := by decide +kernel
theorem dX6_cut_11 : decode cX6_cut 11 = .ok (.ifCond .ne 6, 3) := by decide +kernel
theorem dX6_cut_14 : decode cX6_cut 14 = .ok (.bipush (-101), 2) := by decide +kernel
theorem dX6_cut_16 : decode cX6_cut 16 = .ok (.ireturn, 1) := by decide +kernel
theorem dX6_cut_17 : decode cX6_cut 17 = .ok (.aload_n 0, 1) := by decide +kernel
theorem dX6_cut_18 : decode cX6_cut 18 = .ok (.iload_n 1, 1) := by decide +kernel
theorem dX6_cut_19 : decode cX6_cut 19 = .ok (.invokevirtual 179, 3) := by decide +kernel
theorem dX6_cut_22 : decode cX6_cut 22 = .ok (.iload_n 2, 1) := by decide +kernel
theorem dX6_cut_23 : decode cX6_cut 23 = .ok (.if_icmp .ne 6, 3) := by decide +kernel
theorem dX6_cut_26 : decode cX6_cut 26 = .ok (.bipush (-103), 2) := by decide +kernel
theorem dX6_cut_28 : decode cX6_cut 28 = .ok (.ireturn, 1) := by decide +kernel
theorem dX6_cut_29 : decode cX6_cut 29 = .ok (.aload_n 0, 1) := by decide +kernel
theorem dX6_cut_30 : decode cX6_cut 30 = .ok (.dup, 1) := by decide +kernel
theorem dX6_cut_31 : decode cX6_cut 31 = .ok (.getfield 83, 3) := by decide +kernel
theorem dX6_cut_34 : decode cX6_cut 34 = .ok (.iconst 1, 1) := by decide +kernel
theorem dX6_cut_35 : decode cX6_cut 35 = .ok (.iload_n 1, 1) := by decide +kernel
theorem dX6_cut_36 : decode cX6_cut 36 = .ok (.ishl, 1) := by decide +kernel
theorem dX6_cut_37 : decode cX6_cut 37 = .ok (.ixor, 1) := by decide +kernel
theorem dX6_cut_38 : decode cX6_cut 38 = .ok (.putfield 83, 3) := by decide +kernel
theorem dX6_cut_41 : decode cX6_cut 41 = .ok (.aload_n 0, 1) := by decide +kernel
theorem dX6_cut_42 : decode cX6_cut 42 = .ok (.invokevirtual 86, 3) := by decide +kernel
theorem dX6_cut_45 : decode cX6_cut 45 = .ok (.aload_n 0, 1) := by decide +kernel
theorem dX6_cut_46 : decode cX6_cut 46 = .ok (.getfield 26, 3) := by decide +kernel
theorem dX6_cut_49 : decode cX6_cut 49 = .ok (.getfield 132, 3) := by decide +kernel
theorem dX6_cut_52 : decode cX6_cut 52 = .ok (.ireturn, 1) := by decide +kernel
theorem dX6_isColumn_0 : decode cX6_isColumn 0 = .ok (.iload_n 1, 1) := by decide +kernel
theorem dX6_isColumn_1 : decode cX6_isColumn 1 = .ok (.ifCond .lt 18, 3) := by decide +kernel
theorem dX6_isColumn_4 : decode cX6_isColumn 4 = .ok (.iload_n 1, 1) := by decide +kernel
theorem dX6_isColumn_5 : decode cX6_isColumn 5 = .ok (.aload_n 0, 1) := by decide +kernel
theorem dX6_isColumn_6 : decode cX6_isColumn 6 = .ok (.getfield 19, 3) := by decide +kernel
theorem dX6_isColumn_9 : decode cX6_isColumn 9 = .ok (.getfield 72, 3) := by decide +kernel
theorem dX6_isColumn_12 : decode cX6_isColumn 12 = .ok (.if_icmp .ge 7, 3) := by decide +kernel
theorem dX6_isColumn_15 : decode cX6_isColumn 15 = .ok (.iconst 1, 1) := by decide +kernel
theorem dX6_isColumn_16 : decode cX6_isColumn 16 = .ok (.goto 4, 3) := by decide +kernel
theorem dX6_isColumn_19 : decode cX6_isColumn 19 = .ok (.iconst 0, 1) := by decide +kernel
theorem dX6_isColumn_20 : decode cX6_isColumn 20 = .ok (.ireturn, 1) := by decide +kernel
theorem dX6_turn_0 : decode cX6_turn 0 = .ok (.aload_n 0, 1) := by decide +kernel
theorem dX6_turn_1 : decode cX6_turn 1 = .ok (.iload_n 1, 1) := by decide +kernel
theorem dX6_turn_2 : decode cX6_turn 2 = .ok (.invokevirtual 154, 3) := by decide +kernel
theorem dX6_turn_5 : decode cX6_turn 5 = .ok (.ifCond .ne 6, 3) := by decide +kernel
theorem dX6_turn_8 : decode cX6_turn 8 = .ok (.bipush (-101), 2) := by decide +kernel
theorem dX6_turn_10 : decode cX6_turn 10 = .ok (.ireturn, 1) := by decide +kernel
theorem dX6_turn_11 : decode cX6_turn 11 = .ok (.aload_n 0, 1) := by decide +kernel
theorem dX6_turn_12 : decode cX6_turn 12 = .ok (.getfield 19, 3) := by decide +kernel
theorem dX6_turn_15 : decode cX6_turn 15 = .ok (.iload_n 1, 1) := by decide +kernel
end
section
theorem dX6_turn_16 : decode cX6_turn 16 = .ok (.iconst 0, 1) := by decide +kernel
theorem dX6_turn_17 : decode cX6_turn 17 = .ok (.invokevirtual 160, 3) := by decide +kernel
theorem dX6_turn_20 : decode cX6_turn 20 = .ok (.istore_n 2, 1) := by decide +kernel
theorem dX6_turn_21 : decode cX6_turn 21 = .ok (.aload_n 0, 1) := by decide +kernel
theorem dX6_turn_22 : decode cX6_turn 22 = .ok (.getfield 19, 3) := by decide +kernel
theorem dX6_turn_25 : decode cX6_turn 25 = .ok (.iload_n 1, 1) := by decide +kernel
theorem dX6_turn_26 : decode cX6_turn 26 = .ok (.iconst 1, 1) := by decide +kernel
theorem dX6_turn_27 : decode cX6_turn 27 = .ok (.invokevirtual 160, 3) := by decide +kernel
theorem dX6_turn_30 : decode cX6_turn 30 = .ok (.istore_n 3, 1) := by decide +kernel
theorem dX6_turn_31 : decode cX6_turn 31 = .ok (.aload_n 0, 1) := by decide +kernel
theorem dX6_turn_32 : decode cX6_turn 32 = .ok (.getfield 19, 3) := by decide +kernel
theorem dX6_turn_35 : decode cX6_turn 35 = .ok (.iload_n 1, 1) := by decide +kernel
theorem dX6_turn_36 : decode cX6_turn 36 = .ok (.iconst 0, 1) := by decide +kernel
theorem dX6_turn_37 : decode cX6_turn 37 = .ok (.iload_n 3, 1) := by decide +kernel
theorem dX6_turn_38 : decode cX6_turn 38 = .ok (.invokevirtual 79, 3) := by decide +kernel
theorem dX6_turn_41 : decode cX6_turn 41 = .ok (.aload_n 0, 1) := by decide +kernel
theorem dX6_turn_42 : decode cX6_turn 42 = .ok (.getfield 19, 3) := by decide +kernel
theorem dX6_turn_45 : decode cX6_turn 45 = .ok (.iload_n 1, 1) := by decide +kernel
theorem dX6_turn_46 : decode cX6_turn 46 = .ok (.iconst 1, 1) := by decide +kernel
theorem dX6_turn_47 : decode cX6_turn 47 = .ok (.iload_n 2, 1) := by decide +kernel
theorem dX6_turn_48 : decode cX6_turn 48 = .ok (.invokevirtual 79, 3) := by decide +kernel
theorem dX6_turn_51 : decode cX6_turn 51 = .ok (.aload_n 0, 1) := by decide +kernel
theorem dX6_turn_52 : decode cX6_turn 52 = .ok (.invokevirtual 86, 3) := by decide +kernel
theorem dX6_turn_55 : decode cX6_turn 55 = .ok (.iload_n 3, 1) := by decide +kernel
theorem dX6_turn_56 : decode cX6_turn 56 = .ok (.ireturn, 1) := by decide +kernel
theorem dX6_isError_0 : decode cX6_isError 0 = .ok (.iload_n 0, 1) := by decide +kernel
theorem dX6_isError_1 : decode cX6_isError 1 = .ok (.bipush (-101), 2) := by decide +kernel
theorem dX6_isError_3 : decode cX6_isError 3 = .ok (.if_icmp .gt 7, 3) := by decide +kernel
theorem dX6_isError_6 : decode cX6_isError 6 = .ok (.iconst 1, 1) := by decide +kernel
theorem dX6_isError_7 : decode cX6_isError 7 = .ok (.goto 4, 3) := by decide +kernel
theorem dX6_isError_10 : decode cX6_isError 10 = .ok (.iconst 0, 1) := by decide +kernel
theorem dX6_isError_11 : decode cX6_isError 11 = .ok (.ireturn, 1) := by decide +kernel
theorem dX6_say_0 : decode cX6_say 0 = .ok (.aload_n 0, 1) := by decide +kernel
theorem dX6_say_1 : decode cX6_say 1 = .ok (.getfield 10, 3) := by decide +kernel
theorem dX6_say_4 : decode cX6_say 4 = .ok (.invokevirtual 92, 3) := by decide +kernel
theorem dX6_say_7 : decode cX6_say 7 = .ok (.istore_n 1, 1) := by decide +kernel
theorem dX6_say_8 : decode cX6_say 8 = .ok (.iload_n 1, 1) := by decide +kernel
theorem dX6_say_9 : decode cX6_say 9 = .ok (.iconst (-1), 1) := by decide +kernel
theorem dX6_say_10 : decode cX6_say 10 = .ok (.if_icmp .ne 6, 3) := by decide +kernel
theorem dX6_say_13 : decode cX6_say 13 = .ok (.bipush (-103), 2) := by decide +kernel
theorem dX6_say_15 : decode cX6_say 15 = .ok (.ireturn, 1) := by decide +kernel
theorem dX6_say_16 : decode cX6_say 16 = .ok (.aload_n 0, 1) := by decide +kernel
theorem dX6_say_17 : decode cX6_say 17 = .ok (.getfield 10, 3) := by decide +kernel
theorem dX6_say_20 : decode cX6_say 20 = .ok (.invokevirtual 95, 3) := by decide +kernel
theorem dX6_say_23 : decode cX6_say 23 = .ok (.istore_n 2, 1) := by decide +kernel
theorem dX6_say_24 : decode cX6_say 24 = .ok (.iload_n 1, 1) := by decide +kernel
theorem dX6_say_25 : decode cX6_say 25 = .ok (.tableswitch 89 0 5 #[39, 47, 55, 63, 76, 89], 39) := by decide +kernel
theorem dX6_say_64 : decode cX6_say 64 = .ok (.aload_n 0, 1) := by decide +kernel
theorem dX6_say_65 : decode cX6_say 65 = .ok (.invokevirtual 98, 3) := by decide +kernel
theorem dX6_say_68 : decode cX6_say 68 = .ok (.istore_n 3, 1) := by decide +kernel
theorem dX6_say_69 : decode cX6_say 69 = .ok (.goto 54, 3) := by decide +kernel
theorem dX6_say_72 : decode cX6_say 72 = .ok (.aload_n 0, 1) := by decide +kernel
theorem dX6_say_73 : decode cX6_say 73 = .ok (.invokevirtual 101, 3) := by decide +kernel
theorem dX6_say_76 : decode cX6_say 76 = .ok (.istore_n 3, 1) := by decide +kernel
theorem dX6_say_77 : decode cX6_say 77 = .ok (.goto 46, 3) := by decide +kernel
theorem dX6_say_80 : decode cX6_say 80 = .ok (.aload_n 0, 1) := by decide +kernel
theorem dX6_say_81 : decode cX6_say 81 = .ok (.invokevirtual 104, 3) := by decide +kernel
theorem dX6_say_84 : decode cX6_say 84 = .ok (.istore_n 3, 1) := by decide +kernel
theorem dX6_say_85 : decode cX6_say 85 = .ok (.goto 38, 3) := by decide +kernel
theorem dX6_say_88 : decode cX6_say 88 = .ok (.aload_n 0, 1) := by decide +kernel
theorem dX6_say_89 : decode cX6_say 89 = .ok (.iload_n 2, 1) := by decide +kernel
theorem dX6_say_90 : decode cX6_say 90 = .ok (.bipush 97, 2) := by decide +kernel
theorem dX6_say_92 : decode cX6_say 92 = .ok (.isub, 1) := by decide +kernel
theorem dX6_say_93 : decode cX6_say 93 = .ok (.iconst 1, 1) := by decide +kernel
theorem dX6_say_94 : decode cX6_say 94 = .ok (.invokevirtual 107, 3) := by decide +kernel
theorem dX6_say_97 : decode cX6_say 97 = .ok (.istore_n 3, 1) := by decide +kernel
theorem dX6_say_98 : decode cX6_say 98 = .ok (.goto 25, 3) := by decide +kernel
theorem dX6_say_101 : decode cX6_say 101 = .ok (.aload_n 0, 1) := by decide +kernel
theorem dX6_say_102 : decode cX6_say 102 = .ok (.iload_n 2, 1) := by decide +kernel
theorem dX6_say_103 : decode cX6_say 103 = .ok (.bipush 97, 2) := by decide +kernel
theorem dX6_say_105 : decode cX6_say 105 = .ok (.isub, 1) := by decide +kernel
theorem dX6_say_106 : decode cX6_say 106 = .ok (.iconst 0, 1) := by decide +kernel
theorem dX6_say_107 : decode cX6_say 107 = .ok (.invokevirtual 107, 3) := by decide +kernel
theorem dX6_say_110 : decode cX6_say 110 = .ok (.istore_n 3, 1) := by decide +kernel
theorem dX6_say_111 : decode cX6_say 111 = .ok (.goto 12, 3) := by decide +kernel
theorem dX6_say_114 : decode cX6_say 114 = .ok (.aload_n 0, 1) := by decide +kernel
theorem dX6_say_115 : decode cX6_say 115 = .ok (.iload_n 2, 1) := by decide +kernel
theorem dX6_say_116 : decode cX6_say 116 = .ok (.bipush 48, 2) := by decide +kernel
theorem dX6_say_118 : decode cX6_say 118 = .ok (.isub, 1) := by decide +kernel
theorem dX6_say_119 : decode cX6_say 119 = .ok (.invokevirtual 111, 3) := by decide +kernel
theorem dX6_say_122 : decode cX6_say 122 = .ok (.istore_n 3, 1) := by decide +kernel
theorem dX6_say_123 : decode cX6_say 123 = .ok (.iload_n 3, 1) := by decide +kernel
theorem dX6_say_124 : decode cX6_say 124 = .ok (.invokestatic 114, 3) := by decide +kernel
theorem dX6_say_127 : decode cX6_say 127 = .ok (.ifCond .ne 11, 3) := by decide +kernel
theorem dX6_say_130 : decode cX6_say 130 = .ok (.aload_n 0, 1) := by decide +kernel
theorem dX6_say_131 : decode cX6_say 131 = .ok (.getfield 10, 3) := by decide +kernel
theorem dX6_say_134 : decode cX6_say 134 = .ok (.iconst 0, 1) := by decide +kernel
theorem dX6_say_135 : decode cX6_say 135 = .ok (.putfield 54, 3) := by decide +kernel
theorem dX6_say_138 : decode cX6_say 138 = .ok (.iload_n 3, 1) := by decide +kernel
theorem dX6_say_139 : decode cX6_say 139 = .ok (.ireturn, 1) := by decide +kernel
theorem dX6_inkOf_0 : decode cX6_inkOf 0 = .ok (.iload_n 0, 1) := by decide +kernel
theorem dX6_inkOf_1 : decode cX6_inkOf 1 = .ok (.ifCond .ne 6, 3) := by decide +kernel
theorem dX6_inkOf_4 : decode cX6_inkOf 4 = .ok (.bipush 46, 2) := by decide +kernel
theorem dX6_inkOf_6 : decode cX6_inkOf 6 = .ok (.ireturn, 1) := by decide +kernel
theorem dX6_inkOf_7 : decode cX6_inkOf 7 = .ok (.iload_n 0, 1) := by decide +kernel
theorem dX6_inkOf_8 : decode cX6_inkOf 8 = .ok (.invokestatic 204, 3) := by decide +kernel
theorem dX6_inkOf_11 : decode cX6_inkOf 11 = .ok (.iconst 1, 1) := by decide +kernel
theorem dX6_inkOf_12 : decode cX6_inkOf 12 = .ok (.if_icmp .le 8, 3) := by decide +kernel
theorem dX6_inkOf_15 : decode cX6_inkOf 15 = .ok (.bipush 35, 2) := by decide +kernel
theorem dX6_inkOf_17 : decode cX6_inkOf 17 = .ok (.goto 10, 3) := by decide +kernel
theorem dX6_inkOf_20 : decode cX6_inkOf 20 = .ok (.bipush 97, 2) := by decide +kernel
theorem dX6_inkOf_22 : decode cX6_inkOf 22 = .ok (.iload_n 0, 1) := by decide +kernel
theorem dX6_inkOf_23 : decode cX6_inkOf 23 = .ok (.invokestatic 173, 3) := by decide +kernel
theorem dX6_inkOf_26 : decode cX6_inkOf 26 = .ok (.iadd, 1) := by decide +kernel
theorem dX6_inkOf_27 : decode cX6_inkOf 27 = .ok (.ireturn, 1) := by decide +kernel
theorem dX6_ink_0 : decode cX6_ink 0 = .ok (.aload_n 0, 1) := by decide +kernel
theorem dX6_ink_1 : decode cX6_ink 1 = .ok (.invokevirtual 118, 3) := by decide +kernel
theorem dX6_ink_4 : decode cX6_ink 4 = .ok (.ifCond .eq 7, 3) := by decide +kernel
theorem dX6_ink_7 : decode cX6_ink 7 = .ok (.iload_n 1, 1) := by decide +kernel
theorem dX6_ink_8 : decode cX6_ink 8 = .ok (.ifCond .ge 6, 3) := by decide +kernel
theorem dX6_ink_11 : decode cX6_ink 11 = .ok (.bipush (-101), 2) := by decide +kernel
theorem dX6_ink_13 : decode cX6_ink 13 = .ok (.ireturn, 1) := by decide +kernel
theorem dX6_ink_14 : decode cX6_ink 14 = .ok (.aload_n 0, 1) := by decide +kernel
theorem dX6_ink_15 : decode cX6_ink 15 = .ok (.getfield 19, 3) := by decide +kernel
theorem dX6_ink_18 : decode cX6_ink 18 = .ok (.getfield 72, 3) := by decide +kernel
theorem dX6_ink_21 : decode cX6_ink 21 = .ok (.iconst 1, 1) := by decide +kernel
theorem dX6_ink_22 : decode cX6_ink 22 = .ok (.iadd, 1) := by decide +kernel
theorem dX6_ink_23 : decode cX6_ink 23 = .ok (.istore_n 2, 1) := by decide +kernel
theorem dX6_ink_24 : decode cX6_ink 24 = .ok (.iload_n 1, 1) := by decide +kernel
theorem dX6_ink_25 : decode cX6_ink 25 = .ok (.iload_n 2, 1) := by decide +kernel
theorem dX6_ink_26 : decode cX6_ink 26 = .ok (.idiv, 1) := by decide +kernel
theorem dX6_ink_27 : decode cX6_ink 27 = .ok (.istore_n 3, 1) := by decide +kernel
theorem dX6_ink_28 : decode cX6_ink 28 = .ok (.iload_n 1, 1) := by decide +kernel
theorem dX6_ink_29 : decode cX6_ink 29 = .ok (.iload_n 2, 1) := by decide +kernel
theorem dX6_ink_30 : decode cX6_ink 30 = .ok (.irem, 1) := by decide +kernel
theorem dX6_ink_31 : decode cX6_ink 31 = .ok (.istore 4, 2) := by decide +kernel
theorem dX6_ink_33 : decode cX6_ink 33 = .ok (.aload_n 0, 1) := by decide +kernel
theorem dX6_ink_34 : decode cX6_ink 34 = .ok (.getfield 50, 3) := by decide +kernel
theorem dX6_ink_37 : decode cX6_ink 37 = .ok (.invokevirtual 122, 3) := by decide +kernel
theorem dX6_ink_40 : decode cX6_ink 40 = .ok (.istore 5, 2) := by decide +kernel
theorem dX6_ink_42 : decode cX6_ink 42 = .ok (.iload_n 3, 1) := by decide +kernel
theorem dX6_ink_43 : decode cX6_ink 43 = .ok (.iload 5, 2) := by decide +kernel
theorem dX6_ink_45 : decode cX6_ink 45 = .ok (.if_icmp .lt 6, 3) := by decide +kernel
theorem dX6_ink_48 : decode cX6_ink 48 = .ok (.bipush (-101), 2) := by decide +kernel
theorem dX6_ink_50 : decode cX6_ink 50 = .ok (.ireturn, 1) := by decide +kernel
theorem dX6_ink_51 : decode cX6_ink 51 = .ok (.iload 4, 2) := by decide +kernel
theorem dX6_ink_53 : decode cX6_ink 53 = .ok (.aload_n 0, 1) := by decide +kernel
theorem dX6_ink_54 : decode cX6_ink 54 = .ok (.getfield 19, 3) := by decide +kernel
theorem dX6_ink_57 : decode cX6_ink 57 = .ok (.getfield 72, 3) := by decide +kernel
theorem dX6_ink_60 : decode cX6_ink 60 = .ok (.if_icmp .ge 21, 3) := by decide +kernel
theorem dX6_ink_63 : decode cX6_ink 63 = .ok (.aload_n 0, 1) := by decide +kernel
theorem dX6_ink_64 : decode cX6_ink 64 = .ok (.getfield 50, 3) := by decide +kernel
theorem dX6_ink_67 : decode cX6_ink 67 = .ok (.aload_n 0, 1) := by decide +kernel
theorem dX6_ink_68 : decode cX6_ink 68 = .ok (.getfield 26, 3) := by decide +kernel
theorem dX6_ink_71 : decode cX6_ink 71 = .ok (.iload_n 3, 1) := by decide +kernel
theorem dX6_ink_72 : decode cX6_ink 72 = .ok (.iload 4, 2) := by decide +kernel
theorem dX6_ink_74 : decode cX6_ink 74 = .ok (.invokevirtual 125, 3) := by decide +kernel
theorem dX6_ink_77 : decode cX6_ink 77 = .ok (.invokestatic 129, 3) := by decide +kernel
theorem dX6_ink_80 : decode cX6_ink 80 = .ok (.ireturn, 1) := by decide +kernel
theorem dX6_ink_81 : decode cX6_ink 81 = .ok (.iload_n 3, 1) := by decide +kernel
theorem dX6_ink_82 : decode cX6_ink 82 = .ok (.iload 5, 2) := by decide +kernel
theorem dX6_ink_84 : decode cX6_ink 84 = .ok (.iconst 1, 1) := by decide +kernel
theorem dX6_ink_85 : decode cX6_ink 85 = .ok (.isub, 1) := by decide +kernel
theorem dX6_ink_86 : decode cX6_ink 86 = .ok (.if_icmp .ge 8, 3) := by decide +kernel
theorem dX6_ink_89 : decode cX6_ink 89 = .ok (.bipush 47, 2) := by decide +kernel
theorem dX6_ink_91 : decode cX6_ink 91 = .ok (.goto 5, 3) := by decide +kernel
theorem dX6_ink_94 : decode cX6_ink 94 = .ok (.bipush (-101), 2) := by decide +kernel
theorem dX6_ink_96 : decode cX6_ink 96 = .ok (.ireturn, 1) := by decide +kernel
theorem dX6_breakingSet_0 : decode cX6_breakingSet 0 = .ok (.aload_n 0, 1) := by decide +kernel
theorem dX6_breakingSet_1 : decode cX6_breakingSet 1 = .ok (.getfield 19, 3) := by decide +kernel
theorem dX6_breakingSet_4 : decode cX6_breakingSet 4 = .ok (.invokevirtual 316, 3) := by decide +kernel
theorem dX6_breakingSet_7 : decode cX6_breakingSet 7 = .ok (.istore_n 1, 1) := by decide +kernel
theorem dX6_breakingSet_8 : decode cX6_breakingSet 8 = .ok (.iconst 0, 1) := by decide +kernel
theorem dX6_breakingSet_9 : decode cX6_breakingSet 9 = .ok (.istore_n 2, 1) := by decide +kernel
theorem dX6_breakingSet_10 : decode cX6_breakingSet 10 = .ok (.iload_n 2, 1) := by decide +kernel
theorem dX6_breakingSet_11 : decode cX6_breakingSet 11 = .ok (.bipush 6, 2) := by decide +kernel
theorem dX6_breakingSet_13 : decode cX6_breakingSet 13 = .ok (.if_icmp .gt 63, 3) := by decide +kernel
theorem dX6_breakingSet_16 : decode cX6_breakingSet 16 = .ok (.iconst 0, 1) := by decide +kernel
theorem dX6_breakingSet_17 : decode cX6_breakingSet 17 = .ok (.istore_n 3, 1) := by decide +kernel
theorem dX6_breakingSet_18 : decode cX6_breakingSet 18 = .ok (.iload_n 3, 1) := by decide +kernel
theorem dX6_breakingSet_19 : decode cX6_breakingSet 19 = .ok (.bipush 64, 2) := by decide +kernel
theorem dX6_breakingSet_21 : decode cX6_breakingSet 21 = .ok (.if_icmp .ge 49, 3) := by decide +kernel
theorem dX6_breakingSet_24 : decode cX6_breakingSet 24 = .ok (.iload_n 3, 1) := by decide +kernel
theorem dX6_breakingSet_25 : decode cX6_breakingSet 25 = .ok (.invokestatic 204, 3) := by decide +kernel
theorem dX6_breakingSet_28 : decode cX6_breakingSet 28 = .ok (.iload_n 2, 1) := by decide +kernel
theorem dX6_breakingSet_29 : decode cX6_breakingSet 29 = .ok (.if_icmp .ne 35, 3) := by decide +kernel
theorem dX6_breakingSet_32 : decode cX6_breakingSet 32 = .ok (.iload_n 3, 1) := by decide +kernel
theorem dX6_breakingSet_33 : decode cX6_breakingSet 33 = .ok (.iload_n 1, 1) := by decide +kernel
theorem dX6_breakingSet_34 : decode cX6_breakingSet 34 = .ok (.iconst (-1), 1) := by decide +kernel
theorem dX6_breakingSet_35 : decode cX6_breakingSet 35 = .ok (.ixor, 1) := by decide +kernel
theorem dX6_breakingSet_36 : decode cX6_breakingSet 36 = .ok (.iand, 1) := by decide +kernel
theorem dX6_breakingSet_37 : decode cX6_breakingSet 37 = .ok (.ifCond .ne 27, 3) := by decide +kernel
theorem dX6_breakingSet_40 : decode cX6_breakingSet 40 = .ok (.aload_n 0, 1) := by decide +kernel
theorem dX6_breakingSet_41 : decode cX6_breakingSet 41 = .ok (.getfield 30, 3) := by decide +kernel
theorem dX6_breakingSet_44 : decode cX6_breakingSet 44 = .ok (.aload_n 0, 1) := by decide +kernel
theorem dX6_breakingSet_45 : decode cX6_breakingSet 45 = .ok (.getfield 19, 3) := by decide +kernel
theorem dX6_breakingSet_48 : decode cX6_breakingSet 48 = .ok (.iload_n 3, 1) := by decide +kernel
theorem dX6_breakingSet_49 : decode cX6_breakingSet 49 = .ok (.invokevirtual 307, 3) := by decide +kernel
theorem dX6_breakingSet_52 : decode cX6_breakingSet 52 = .ok (.aload_n 0, 1) := by decide +kernel
theorem dX6_breakingSet_53 : decode cX6_breakingSet 53 = .ok (.getfield 30, 3) := by decide +kernel
theorem dX6_breakingSet_56 : decode cX6_breakingSet 56 = .ok (.invokevirtual 237, 3) := by decide +kernel
theorem dX6_breakingSet_59 : decode cX6_breakingSet 59 = .ok (.ifCond .ne 5, 3) := by decide +kernel
theorem dX6_breakingSet_62 : decode cX6_breakingSet 62 = .ok (.iload_n 3, 1) := by decide +kernel
theorem dX6_breakingSet_63 : decode cX6_breakingSet 63 = .ok (.ireturn, 1) := by decide +kernel
theorem dX6_breakingSet_64 : decode cX6_breakingSet 64 = .ok (.iinc 3 1, 3) := by decide +kernel
theorem dX6_breakingSet_67 : decode cX6_breakingSet 67 = .ok (.goto (-49), 3) := by decide +kernel
theorem dX6_breakingSet_70 : decode cX6_breakingSet 70 = .ok (.iinc 2 1, 3) := by decide +kernel
theorem dX6_breakingSet_73 : decode cX6_breakingSet 73 = .ok (.goto (-63), 3) := by decide +kernel
theorem dX6_breakingSet_76 : decode cX6_breakingSet 76 = .ok (.iconst (-1), 1) := by decide +kernel
theorem dX6_breakingSet_77 : decode cX6_breakingSet 77 = .ok (.ireturn, 1) := by decide +kernel
theorem dX6_about_0 : decode cX6_about 0 = .ok (.iload_n 1, 1) := by decide +kernel
theorem dX6_about_1 : decode cX6_about 1 = .ok (.ifCond .lt 9, 3) := by decide +kernel
theorem dX6_about_4 : decode cX6_about 4 = .ok (.iload_n 1, 1) := by decide +kernel
theorem dX6_about_5 : decode cX6_about 5 = .ok (.bipush 9, 2) := by decide +kernel
theorem dX6_about_7 : decode cX6_about 7 = .ok (.if_icmp .le 6, 3) := by decide +kernel
theorem dX6_about_10 : decode cX6_about 10 = .ok (.bipush (-102), 2) := by decide +kernel
theorem dX6_about_12 : decode cX6_about 12 = .ok (.ireturn, 1) := by decide +kernel
theorem dX6_about_13 : decode cX6_about 13 = .ok (.aload_n 0, 1) := by decide +kernel
theorem dX6_about_14 : decode cX6_about 14 = .ok (.invokevirtual 118, 3) := by decide +kernel
theorem dX6_about_17 : decode cX6_about 17 = .ok (.ifCond .ne 6, 3) := by decide +kernel
theorem dX6_about_20 : decode cX6_about 20 = .ok (.bipush (-103), 2) := by decide +kernel
theorem dX6_about_22 : decode cX6_about 22 = .ok (.ireturn, 1) := by decide +kernel
theorem dX6_about_23 : decode cX6_about 23 = .ok (.iload_n 1, 1) := by decide +kernel
theorem dX6_about_24 : decode cX6_about 24 = .ok (.tableswitch 133 0 8 #[52, 60, 68, 76, 84, 92, 97, 105, 113], 52) := by decide +kernel
theorem dX6_about_76 : decode cX6_about 76 = .ok (.aload_n 0, 1) := by decide +kernel
theorem dX6_about_77 : decode cX6_about 77 = .ok (.getfield 19, 3) := by decide +kernel
theorem dX6_about_80 : decode cX6_about 80 = .ok (.getfield 72, 3) := by decide +kernel
theorem dX6_about_83 : decode cX6_about 83 = .ok (.ireturn, 1) := by decide +kernel
theorem dX6_about_84 : decode cX6_about 84 = .ok (.aload_n 0, 1) := by decide +kernel
theorem dX6_about_85 : decode cX6_about 85 = .ok (.getfield 26, 3) := by decide +kernel
theorem dX6_about_88 : decode cX6_about 88 = .ok (.getfield 132, 3) := by decide +kernel
theorem dX6_about_91 : decode cX6_about 91 = .ok (.ireturn, 1) := by decide +kernel
theorem dX6_about_92 : decode cX6_about 92 = .ok (.aload_n 0, 1) := by decide +kernel
theorem dX6_about_93 : decode cX6_about 93 = .ok (.getfield 43, 3) := by decide +kernel
theorem dX6_about_96 : decode cX6_about 96 = .ok (.getfield 135, 3) := by decide +kernel
theorem dX6_about_99 : decode cX6_about 99 = .ok (.ireturn, 1) := by decide +kernel
theorem dX6_about_100 : decode cX6_about 100 = .ok (.aload_n 0, 1) := by decide +kernel
theorem dX6_about_101 : decode cX6_about 101 = .ok (.getfield 26, 3) := by decide +kernel
theorem dX6_about_104 : decode cX6_about 104 = .ok (.getfield 138, 3) := by decide +kernel
theorem dX6_about_107 : decode cX6_about 107 = .ok (.ireturn, 1) := by decide +kernel
theorem dX6_about_108 : decode cX6_about 108 = .ok (.aload_n 0, 1) := by decide +kernel
theorem dX6_about_109 : decode cX6_about 109 = .ok (.getfield 36, 3) := by decide +kernel
theorem dX6_about_112 : decode cX6_about 112 = .ok (.getfield 141, 3) := by decide +kernel
theorem dX6_about_115 : decode cX6_about 115 = .ok (.ireturn, 1) := by decide +kernel
theorem dX6_about_116 : decode cX6_about 116 = .ok (.aload_n 0, 1) := by decide +kernel
theorem dX6_about_117 : decode cX6_about 117 = .ok (.invokevirtual 142, 3) := by decide +kernel
theorem dX6_about_120 : decode cX6_about 120 = .ok (.ireturn, 1) := by decide +kernel
theorem dX6_about_121 : decode cX6_about 121 = .ok (.aload_n 0, 1) := by decide +kernel
theorem dX6_about_122 : decode cX6_about 122 = .ok (.getfield 43, 3) := by decide +kernel
theorem dX6_about_125 : decode cX6_about 125 = .ok (.getfield 145, 3) := by decide +kernel
theorem dX6_about_128 : decode cX6_about 128 = .ok (.ireturn, 1) := by decide +kernel
theorem dX6_about_129 : decode cX6_about 129 = .ok (.aload_n 0, 1) := by decide +kernel
theorem dX6_about_130 : decode cX6_about 130 = .ok (.getfield 50, 3) := by decide +kernel
theorem dX6_about_133 : decode cX6_about 133 = .ok (.invokevirtual 122, 3) := by decide +kernel
theorem dX6_about_136 : decode cX6_about 136 = .ok (.ireturn, 1) := by decide +kernel
theorem dX6_about_137 : decode cX6_about 137 = .ok (.aload_n 0, 1) := by decide +kernel
theorem dX6_about_138 : decode cX6_about 138 = .ok (.getfield 50, 3) := by decide +kernel
theorem dX6_about_141 : decode cX6_about 141 = .ok (.aload_n 0, 1) := by decide +kernel
theorem dX6_about_142 : decode cX6_about 142 = .ok (.getfield 26, 3) := by decide +kernel
theorem dX6_about_145 : decode cX6_about 145 = .ok (.invokevirtual 146, 3) := by decide +kernel
theorem dX6_about_148 : decode cX6_about 148 = .ok (.ifCond .eq 7, 3) := by decide +kernel
theorem dX6_about_151 : decode cX6_about 151 = .ok (.iconst 1, 1) := by decide +kernel
theorem dX6_about_152 : decode cX6_about 152 = .ok (.goto 4, 3) := by decide +kernel
theorem dX6_about_155 : decode cX6_about 155 = .ok (.iconst 0, 1) := by decide +kernel
theorem dX6_about_156 : decode cX6_about 156 = .ok (.ireturn, 1) := by decide +kernel
theorem dX6_about_157 : decode cX6_about 157 = .ok (.aload_n 0, 1) := by decide +kernel
theorem dX6_about_158 : decode cX6_about 158 = .ok (.getfield 50, 3) := by decide +kernel
theorem dX6_about_161 : decode cX6_about 161 = .ok (.aload_n 0, 1) := by decide +kernel
theorem dX6_about_162 : decode cX6_about 162 = .ok (.getfield 19, 3) := by decide +kernel
theorem dX6_about_165 : decode cX6_about 165 = .ok (.aload_n 0, 1) := by decide +kernel
theorem dX6_about_166 : decode cX6_about 166 = .ok (.getfield 26, 3) := by decide +kernel
theorem dX6_about_169 : decode cX6_about 169 = .ok (.invokevirtual 150, 3) := by decide +kernel
theorem dX6_about_172 : decode cX6_about 172 = .ok (.ireturn, 1) := by decide +kernel
theorem dX6_isSide_0 : decode cX6_isSide 0 = .ok (.iload_n 0, 1) := by decide +kernel
theorem dX6_isSide_1 : decode cX6_isSide 1 = .ok (.ifCond .eq 8, 3) := by decide +kernel
theorem dX6_isSide_4 : decode cX6_isSide 4 = .ok (.iload_n 0, 1) := by decide +kernel
theorem dX6_isSide_5 : decode cX6_isSide 5 = .ok (.iconst 1, 1) := by decide +kernel
theorem dX6_isSide_6 : decode cX6_isSide 6 = .ok (.if_icmp .ne 7, 3) := by decide +kernel
theorem dX6_isSide_9 : decode cX6_isSide 9 = .ok (.iconst 1, 1) := by decide +kernel
theorem dX6_isSide_10 : decode cX6_isSide 10 = .ok (.goto 4, 3) := by decide +kernel
theorem dX6_isSide_13 : decode cX6_isSide 13 = .ok (.iconst 0, 1) := by decide +kernel
theorem dX6_isSide_14 : decode cX6_isSide 14 = .ok (.ireturn, 1) := by decide +kernel
theorem dX6_pin_0 : decode cX6_pin 0 = .ok (.aload_n 0, 1) := by decide +kernel
theorem dX6_pin_1 : decode cX6_pin 1 = .ok (.iload_n 1, 1) := by decide +kernel
theorem dX6_pin_2 : decode cX6_pin 2 = .ok (.invokevirtual 154, 3) := by decide +kernel
theorem dX6_pin_5 : decode cX6_pin 5 = .ok (.ifCond .ne 6, 3) := by decide +kernel
theorem dX6_pin_8 : decode cX6_pin 8 = .ok (.bipush (-101), 2) := by decide +kernel
theorem dX6_pin_10 : decode cX6_pin 10 = .ok (.ireturn, 1) := by decide +kernel
theorem dX6_pin_11 : decode cX6_pin 11 = .ok (.iload_n 2, 1) := by decide +kernel
theorem dX6_pin_12 : decode cX6_pin 12 = .ok (.invokestatic 157, 3) := by decide +kernel
theorem dX6_pin_15 : decode cX6_pin 15 = .ok (.ifCond .ne 6, 3) := by decide +kernel
theorem dX6_pin_18 : decode cX6_pin 18 = .ok (.bipush (-102), 2) := by decide +kernel
theorem dX6_pin_20 : decode cX6_pin 20 = .ok (.ireturn, 1) := by decide +kernel
theorem dX6_pin_21 : decode cX6_pin 21 = .ok (.aload_n 0, 1) := by decide +kernel
theorem dX6_pin_22 : decode cX6_pin 22 = .ok (.getfield 19, 3) := by decide +kernel
theorem dX6_pin_25 : decode cX6_pin 25 = .ok (.iload_n 1, 1) := by decide +kernel
theorem dX6_pin_26 : decode cX6_pin 26 = .ok (.iload_n 2, 1) := by decide +kernel
theorem dX6_pin_27 : decode cX6_pin 27 = .ok (.invokevirtual 160, 3) := by decide +kernel
theorem dX6_pin_30 : decode cX6_pin 30 = .ok (.ireturn, 1) := by decide +kernel
theorem dX6_net_0 : decode cX6_net 0 = .ok (.iload_n 1, 1) := by decide +kernel
theorem dX6_net_1 : decode cX6_net 1 = .ok (.invokestatic 164, 3) := by decide +kernel
theorem dX6_net_4 : decode cX6_net 4 = .ok (.ifCond .ne 6, 3) := by decide +kernel
theorem dX6_net_7 : decode cX6_net 7 = .ok (.bipush (-101), 2) := by decide +kernel
theorem dX6_net_9 : decode cX6_net 9 = .ok (.ireturn, 1) := by decide +kernel
theorem dX6_net_10 : decode cX6_net 10 = .ok (.aload_n 0, 1) := by decide +kernel
theorem dX6_net_11 : decode cX6_net 11 = .ok (.getfield 19, 3) := by decide +kernel
theorem dX6_net_14 : decode cX6_net 14 = .ok (.iload_n 1, 1) := by decide +kernel
theorem dX6_net_15 : decode cX6_net 15 = .ok (.invokevirtual 167, 3) := by decide +kernel
theorem dX6_net_18 : decode cX6_net 18 = .ok (.istore_n 3, 1) := by decide +kernel
theorem dX6_net_19 : decode cX6_net 19 = .ok (.iload_n 3, 1) := by decide +kernel
theorem dX6_net_20 : decode cX6_net 20 = .ok (.ifCond .ne 6, 3) := by decide +kernel
theorem dX6_net_23 : decode cX6_net 23 = .ok (.bipush (-101), 2) := by decide +kernel
theorem dX6_net_25 : decode cX6_net 25 = .ok (.ireturn, 1) := by decide +kernel
theorem dX6_net_26 : decode cX6_net 26 = .ok (.iload_n 2, 1) := by decide +kernel
theorem dX6_net_27 : decode cX6_net 27 = .ok (.tableswitch 75 0 4 #[33, 42, 47, 52, 66], 33) := by decide +kernel
theorem dX6_net_60 : decode cX6_net 60 = .ok (.aload_n 0, 1) := by decide +kernel
theorem dX6_net_61 : decode cX6_net 61 = .ok (.getfield 19, 3) := by decide +kernel
theorem dX6_net_64 : decode cX6_net 64 = .ok (.iload_n 1, 1) := by decide +kernel
theorem dX6_net_65 : decode cX6_net 65 = .ok (.invokevirtual 170, 3) := by decide +kernel
theorem dX6_net_68 : decode cX6_net 68 = .ok (.ireturn, 1) := by decide +kernel
theorem dX6_net_69 : decode cX6_net 69 = .ok (.iload_n 3, 1) := by decide +kernel
theorem dX6_net_70 : decode cX6_net 70 = .ok (.invokestatic 173, 3) := by decide +kernel
theorem dX6_net_73 : decode cX6_net 73 = .ok (.ireturn, 1) := by decide +kernel
theorem dX6_net_74 : decode cX6_net 74 = .ok (.iload_n 3, 1) := by decide +kernel
theorem dX6_net_75 : decode cX6_net 75 = .ok (.invokestatic 176, 3) := by decide +kernel
theorem dX6_net_78 : decode cX6_net 78 = .ok (.ireturn, 1) := by decide +kernel
theorem dX6_net_79 : decode cX6_net 79 = .ok (.aload_n 0, 1) := by decide +kernel
theorem dX6_net_80 : decode cX6_net 80 = .ok (.iload_n 1, 1) := by decide +kernel
theorem dX6_net_81 : decode cX6_net 81 = .ok (.invokevirtual 179, 3) := by decide +kernel
theorem dX6_net_84 : decode cX6_net 84 = .ok (.ifCond .eq 7, 3) := by decide +kernel
theorem dX6_net_87 : decode cX6_net 87 = .ok (.iconst 1, 1) := by decide +kernel
theorem dX6_net_88 : decode cX6_net 88 = .ok (.goto 4, 3) := by decide +kernel
theorem dX6_net_91 : decode cX6_net 91 = .ok (.iconst 0, 1) := by decide +kernel
theorem dX6_net_92 : decode cX6_net 92 = .ok (.ireturn, 1) := by decide +kernel
theorem dX6_net_93 : decode cX6_net 93 = .ok (.aload_n 0, 1) := by decide +kernel
theorem dX6_net_94 : decode cX6_net 94 = .ok (.getfield 26, 3) := by decide +kernel
theorem dX6_net_97 : decode cX6_net 97 = .ok (.iload_n 1, 1) := by decide +kernel
theorem dX6_net_98 : decode cX6_net 98 = .ok (.invokevirtual 182, 3) := by decide +kernel
theorem dX6_net_101 : decode cX6_net 101 = .ok (.ireturn, 1) := by decide +kernel
theorem dX6_net_102 : decode cX6_net 102 = .ok (.bipush (-102), 2) := by decide +kernel
theorem dX6_net_104 : decode cX6_net 104 = .ok (.ireturn, 1) := by decide +kernel
theorem dX6_isSegment_0 : decode cX6_isSegment 0 = .ok (.iload_n 1, 1) := by decide +kernel
theorem dX6_isSegment_1 : decode cX6_isSegment 1 = .ok (.ifCond .lt 18, 3) := by decide +kernel
theorem dX6_isSegment_4 : decode cX6_isSegment 4 = .ok (.iload_n 1, 1) := by decide +kernel
theorem dX6_isSegment_5 : decode cX6_isSegment 5 = .ok (.aload_n 0, 1) := by decide +kernel
theorem dX6_isSegment_6 : decode cX6_isSegment 6 = .ok (.getfield 26, 3) := by decide +kernel
theorem dX6_isSegment_9 : decode cX6_isSegment 9 = .ok (.getfield 132, 3) := by decide +kernel
theorem dX6_isSegment_12 : decode cX6_isSegment 12 = .ok (.if_icmp .ge 7, 3) := by decide +kernel
theorem dX6_isSegment_15 : decode cX6_isSegment 15 = .ok (.iconst 1, 1) := by decide +kernel
theorem dX6_isSegment_16 : decode cX6_isSegment 16 = .ok (.goto 4, 3) := by decide +kernel
theorem dX6_isSegment_19 : decode cX6_isSegment 19 = .ok (.iconst 0, 1) := by decide +kernel
theorem dX6_isSegment_20 : decode cX6_isSegment 20 = .ok (.ireturn, 1) := by decide +kernel
theorem dX6_segment_0 : decode cX6_segment 0 = .ok (.aload_n 0, 1) := by decide +kernel
theorem dX6_segment_1 : decode cX6_segment 1 = .ok (.iload_n 1, 1) := by decide +kernel
theorem dX6_segment_2 : decode cX6_segment 2 = .ok (.invokevirtual 185, 3) := by decide +kernel
theorem dX6_segment_5 : decode cX6_segment 5 = .ok (.ifCond .ne 6, 3) := by decide +kernel
theorem dX6_segment_8 : decode cX6_segment 8 = .ok (.bipush (-101), 2) := by decide +kernel
theorem dX6_segment_10 : decode cX6_segment 10 = .ok (.ireturn, 1) := by decide +kernel
theorem dX6_segment_11 : decode cX6_segment 11 = .ok (.iload_n 2, 1) := by decide +kernel
theorem dX6_segment_12 : decode cX6_segment 12 = .ok (.tableswitch 120 0 6 #[44, 54, 64, 74, 84, 97, 110], 44) := by decide +kernel
theorem dX6_segment_56 : decode cX6_segment 56 = .ok (.aload_n 0, 1) := by decide +kernel
theorem dX6_segment_57 : decode cX6_segment 57 = .ok (.getfield 26, 3) := by decide +kernel
theorem dX6_segment_60 : decode cX6_segment 60 = .ok (.getfield 188, 3) := by decide +kernel
theorem dX6_segment_63 : decode cX6_segment 63 = .ok (.iload_n 1, 1) := by decide +kernel
theorem dX6_segment_64 : decode cX6_segment 64 = .ok (.iaload, 1) := by decide +kernel
theorem dX6_segment_65 : decode cX6_segment 65 = .ok (.ireturn, 1) := by decide +kernel
theorem dX6_segment_66 : decode cX6_segment 66 = .ok (.aload_n 0, 1) := by decide +kernel
theorem dX6_segment_67 : decode cX6_segment 67 = .ok (.getfield 26, 3) := by decide +kernel
theorem dX6_segment_70 : decode cX6_segment 70 = .ok (.getfield 192, 3) := by decide +kernel
theorem dX6_segment_73 : decode cX6_segment 73 = .ok (.iload_n 1, 1) := by decide +kernel
theorem dX6_segment_74 : decode cX6_segment 74 = .ok (.iaload, 1) := by decide +kernel
theorem dX6_segment_75 : decode cX6_segment 75 = .ok (.ireturn, 1) := by decide +kernel
theorem dX6_segment_76 : decode cX6_segment 76 = .ok (.aload_n 0, 1) := by decide +kernel
theorem dX6_segment_77 : decode cX6_segment 77 = .ok (.getfield 26, 3) := by decide +kernel
theorem dX6_segment_80 : decode cX6_segment 80 = .ok (.getfield 195, 3) := by decide +kernel
theorem dX6_segment_83 : decode cX6_segment 83 = .ok (.iload_n 1, 1) := by decide +kernel
theorem dX6_segment_84 : decode cX6_segment 84 = .ok (.iaload, 1) := by decide +kernel
theorem dX6_segment_85 : decode cX6_segment 85 = .ok (.ireturn, 1) := by decide +kernel
theorem dX6_segment_86 : decode cX6_segment 86 = .ok (.aload_n 0, 1) := by decide +kernel
theorem dX6_segment_87 : decode cX6_segment 87 = .ok (.getfield 50, 3) := by decide +kernel
theorem dX6_segment_90 : decode cX6_segment 90 = .ok (.getfield 198, 3) := by decide +kernel
theorem dX6_segment_93 : decode cX6_segment 93 = .ok (.iload_n 1, 1) := by decide +kernel
theorem dX6_segment_94 : decode cX6_segment 94 = .ok (.iaload, 1) := by decide +kernel
theorem dX6_segment_95 : decode cX6_segment 95 = .ok (.ireturn, 1) := by decide +kernel
theorem dX6_segment_96 : decode cX6_segment 96 = .ok (.aload_n 0, 1) := by decide +kernel
theorem dX6_segment_97 : decode cX6_segment 97 = .ok (.getfield 26, 3) := by decide +kernel
theorem dX6_segment_100 : decode cX6_segment 100 = .ok (.getfield 201, 3) := by decide +kernel
theorem dX6_segment_103 : decode cX6_segment 103 = .ok (.iload_n 1, 1) := by decide +kernel
theorem dX6_segment_104 : decode cX6_segment 104 = .ok (.iaload, 1) := by decide +kernel
theorem dX6_segment_105 : decode cX6_segment 105 = .ok (.invokestatic 204, 3) := by decide +kernel
theorem dX6_segment_108 : decode cX6_segment 108 = .ok (.ireturn, 1) := by decide +kernel
theorem dX6_segment_109 : decode cX6_segment 109 = .ok (.aload_n 0, 1) := by decide +kernel
theorem dX6_segment_110 : decode cX6_segment 110 = .ok (.getfield 26, 3) := by decide +kernel
theorem dX6_segment_113 : decode cX6_segment 113 = .ok (.getfield 209, 3) := by decide +kernel
theorem dX6_segment_116 : decode cX6_segment 116 = .ok (.iload_n 1, 1) := by decide +kernel
theorem dX6_segment_117 : decode cX6_segment 117 = .ok (.iaload, 1) := by decide +kernel
theorem dX6_segment_118 : decode cX6_segment 118 = .ok (.invokestatic 204, 3) := by decide +kernel
theorem dX6_segment_121 : decode cX6_segment 121 = .ok (.ireturn, 1) := by decide +kernel
theorem dX6_segment_122 : decode cX6_segment 122 = .ok (.aload_n 0, 1) := by decide +kernel
theorem dX6_segment_123 : decode cX6_segment 123 = .ok (.getfield 26, 3) := by decide +kernel
theorem dX6_segment_126 : decode cX6_segment 126 = .ok (.getfield 212, 3) := by decide +kernel
theorem dX6_segment_129 : decode cX6_segment 129 = .ok (.iload_n 1, 1) := by decide +kernel
theorem dX6_segment_130 : decode cX6_segment 130 = .ok (.iaload, 1) := by decide +kernel
theorem dX6_segment_131 : decode cX6_segment 131 = .ok (.ireturn, 1) := by decide +kernel
theorem dX6_segment_132 : decode cX6_segment 132 = .ok (.bipush (-102), 2) := by decide +kernel
theorem dX6_segment_134 : decode cX6_segment 134 = .ok (.ireturn, 1) := by decide +kernel
theorem dX6_above_0 : decode cX6_above 0 = .ok (.aload_n 0, 1) := by decide +kernel
theorem dX6_above_1 : decode cX6_above 1 = .ok (.iload_n 1, 1) := by decide +kernel
theorem dX6_above_2 : decode cX6_above 2 = .ok (.invokevirtual 185, 3) := by decide +kernel
theorem dX6_above_5 : decode cX6_above 5 = .ok (.ifCond .eq 11, 3) := by decide +kernel
theorem dX6_above_8 : decode cX6_above 8 = .ok (.aload_n 0, 1) := by decide +kernel
theorem dX6_above_9 : decode cX6_above 9 = .ok (.iload_n 2, 1) := by decide +kernel
theorem dX6_above_10 : decode cX6_above 10 = .ok (.invokevirtual 185, 3) := by decide +kernel
theorem dX6_above_13 : decode cX6_above 13 = .ok (.ifCond .ne 6, 3) := by decide +kernel
theorem dX6_above_16 : decode cX6_above 16 = .ok (.bipush (-101), 2) := by decide +kernel
theorem dX6_above_18 : decode cX6_above 18 = .ok (.ireturn, 1) := by decide +kernel
theorem dX6_above_19 : decode cX6_above 19 = .ok (.aload_n 0, 1) := by decide +kernel
theorem dX6_above_20 : decode cX6_above 20 = .ok (.getfield 26, 3) := by decide +kernel
theorem dX6_above_23 : decode cX6_above 23 = .ok (.iload_n 1, 1) := by decide +kernel
theorem dX6_above_24 : decode cX6_above 24 = .ok (.iload_n 2, 1) := by decide +kernel
theorem dX6_above_25 : decode cX6_above 25 = .ok (.invokevirtual 215, 3) := by decide +kernel
theorem dX6_above_28 : decode cX6_above 28 = .ok (.ifCond .eq 7, 3) := by decide +kernel
theorem dX6_above_31 : decode cX6_above 31 = .ok (.iconst 1, 1) := by decide +kernel
theorem dX6_above_32 : decode cX6_above 32 = .ok (.goto 4, 3) := by decide +kernel
theorem dX6_above_35 : decode cX6_above 35 = .ok (.iconst 0, 1) := by decide +kernel
theorem dX6_above_36 : decode cX6_above 36 = .ok (.ireturn, 1) := by decide +kernel
theorem dX6_may_0 : decode cX6_may 0 = .ok (.aload_n 0, 1) := by decide +kernel
theorem dX6_may_1 : decode cX6_may 1 = .ok (.iload_n 1, 1) := by decide +kernel
theorem dX6_may_2 : decode cX6_may 2 = .ok (.invokevirtual 185, 3) := by decide +kernel
theorem dX6_may_5 : decode cX6_may 5 = .ok (.ifCond .eq 11, 3) := by decide +kernel
theorem dX6_may_8 : decode cX6_may 8 = .ok (.aload_n 0, 1) := by decide +kernel
theorem dX6_may_9 : decode cX6_may 9 = .ok (.iload_n 2, 1) := by decide +kernel
theorem dX6_may_10 : decode cX6_may 10 = .ok (.invokevirtual 185, 3) := by decide +kernel
theorem dX6_may_13 : decode cX6_may 13 = .ok (.ifCond .ne 6, 3) := by decide +kernel
theorem dX6_may_16 : decode cX6_may 16 = .ok (.bipush (-101), 2) := by decide +kernel
theorem dX6_may_18 : decode cX6_may 18 = .ok (.ireturn, 1) := by decide +kernel
theorem dX6_may_19 : decode cX6_may 19 = .ok (.aload_n 0, 1) := by decide +kernel
theorem dX6_may_20 : decode cX6_may 20 = .ok (.getfield 26, 3) := by decide +kernel
theorem dX6_may_23 : decode cX6_may 23 = .ok (.iload_n 1, 1) := by decide +kernel
theorem dX6_may_24 : decode cX6_may 24 = .ok (.iload_n 2, 1) := by decide +kernel
theorem dX6_may_25 : decode cX6_may 25 = .ok (.invokevirtual 219, 3) := by decide +kernel
theorem dX6_may_28 : decode cX6_may 28 = .ok (.iconst (-1), 1) := by decide +kernel
theorem dX6_may_29 : decode cX6_may 29 = .ok (.if_icmp .ne 20, 3) := by decide +kernel
theorem dX6_may_32 : decode cX6_may 32 = .ok (.aload_n 0, 1) := by decide +kernel
theorem dX6_may_33 : decode cX6_may 33 = .ok (.getfield 26, 3) := by decide +kernel
theorem dX6_may_36 : decode cX6_may 36 = .ok (.iload_n 2, 1) := by decide +kernel
theorem dX6_may_37 : decode cX6_may 37 = .ok (.iload_n 1, 1) := by decide +kernel
theorem dX6_may_38 : decode cX6_may 38 = .ok (.invokevirtual 219, 3) := by decide +kernel
theorem dX6_may_41 : decode cX6_may 41 = .ok (.iconst (-1), 1) := by decide +kernel
theorem dX6_may_42 : decode cX6_may 42 = .ok (.if_icmp .ne 7, 3) := by decide +kernel
theorem dX6_may_45 : decode cX6_may 45 = .ok (.iconst 1, 1) := by decide +kernel
theorem dX6_may_46 : decode cX6_may 46 = .ok (.goto 4, 3) := by decide +kernel
theorem dX6_may_49 : decode cX6_may 49 = .ok (.iconst 0, 1) := by decide +kernel
theorem dX6_may_50 : decode cX6_may 50 = .ok (.istore_n 3, 1) := by decide +kernel
theorem dX6_may_51 : decode cX6_may 51 = .ok (.iload_n 3, 1) := by decide +kernel
theorem dX6_may_52 : decode cX6_may 52 = .ok (.ifCond .eq 19, 3) := by decide +kernel
theorem dX6_may_55 : decode cX6_may 55 = .ok (.aload_n 0, 1) := by decide +kernel
theorem dX6_may_56 : decode cX6_may 56 = .ok (.getfield 26, 3) := by decide +kernel
theorem dX6_may_59 : decode cX6_may 59 = .ok (.iload_n 1, 1) := by decide +kernel
theorem dX6_may_60 : decode cX6_may 60 = .ok (.iload_n 2, 1) := by decide +kernel
theorem dX6_may_61 : decode cX6_may 61 = .ok (.invokevirtual 222, 3) := by decide +kernel
theorem dX6_may_64 : decode cX6_may 64 = .ok (.ifCond .ne 7, 3) := by decide +kernel
theorem dX6_may_67 : decode cX6_may 67 = .ok (.iconst 1, 1) := by decide +kernel
theorem dX6_may_68 : decode cX6_may 68 = .ok (.goto 4, 3) := by decide +kernel
theorem dX6_may_71 : decode cX6_may 71 = .ok (.iconst 0, 1) := by decide +kernel
theorem dX6_may_72 : decode cX6_may 72 = .ok (.ireturn, 1) := by decide +kernel
theorem dX6_ring_0 : decode cX6_ring 0 = .ok (.iload_n 1, 1) := by decide +kernel
theorem dX6_ring_1 : decode cX6_ring 1 = .ok (.ifCond .lt 14, 3) := by decide +kernel
theorem dX6_ring_4 : decode cX6_ring 4 = .ok (.iload_n 1, 1) := by decide +kernel
theorem dX6_ring_5 : decode cX6_ring 5 = .ok (.aload_n 0, 1) := by decide +kernel
theorem dX6_ring_6 : decode cX6_ring 6 = .ok (.getfield 36, 3) := by decide +kernel
theorem dX6_ring_9 : decode cX6_ring 9 = .ok (.getfield 141, 3) := by decide +kernel
theorem dX6_ring_12 : decode cX6_ring 12 = .ok (.if_icmp .lt 6, 3) := by decide +kernel
theorem dX6_ring_15 : decode cX6_ring 15 = .ok (.bipush (-101), 2) := by decide +kernel
theorem dX6_ring_17 : decode cX6_ring 17 = .ok (.ireturn, 1) := by decide +kernel
theorem dX6_ring_18 : decode cX6_ring 18 = .ok (.aload_n 0, 1) := by decide +kernel
theorem dX6_ring_19 : decode cX6_ring 19 = .ok (.getfield 36, 3) := by decide +kernel
theorem dX6_ring_22 : decode cX6_ring 22 = .ok (.getfield 225, 3) := by decide +kernel
theorem dX6_ring_25 : decode cX6_ring 25 = .ok (.iload_n 1, 1) := by decide +kernel
theorem dX6_ring_26 : decode cX6_ring 26 = .ok (.iaload, 1) := by decide +kernel
theorem dX6_ring_27 : decode cX6_ring 27 = .ok (.ireturn, 1) := by decide +kernel
theorem dX6_zone_0 : decode cX6_zone 0 = .ok (.iload_n 1, 1) := by decide +kernel
theorem dX6_zone_1 : decode cX6_zone 1 = .ok (.ifCond .lt 14, 3) := by decide +kernel
theorem dX6_zone_4 : decode cX6_zone 4 = .ok (.iload_n 1, 1) := by decide +kernel
theorem dX6_zone_5 : decode cX6_zone 5 = .ok (.aload_n 0, 1) := by decide +kernel
theorem dX6_zone_6 : decode cX6_zone 6 = .ok (.getfield 43, 3) := by decide +kernel
theorem dX6_zone_9 : decode cX6_zone 9 = .ok (.getfield 145, 3) := by decide +kernel
theorem dX6_zone_12 : decode cX6_zone 12 = .ok (.if_icmp .lt 6, 3) := by decide +kernel
theorem dX6_zone_15 : decode cX6_zone 15 = .ok (.bipush (-101), 2) := by decide +kernel
theorem dX6_zone_17 : decode cX6_zone 17 = .ok (.ireturn, 1) := by decide +kernel
theorem dX6_zone_18 : decode cX6_zone 18 = .ok (.aload_n 0, 1) := by decide +kernel
theorem dX6_zone_19 : decode cX6_zone 19 = .ok (.getfield 43, 3) := by decide +kernel
theorem dX6_zone_22 : decode cX6_zone 22 = .ok (.getfield 228, 3) := by decide +kernel
theorem dX6_zone_25 : decode cX6_zone 25 = .ok (.iload_n 1, 1) := by decide +kernel
theorem dX6_zone_26 : decode cX6_zone 26 = .ok (.iaload, 1) := by decide +kernel
theorem dX6_zone_27 : decode cX6_zone 27 = .ok (.ireturn, 1) := by decide +kernel
theorem dX6_put_0 : decode cX6_put 0 = .ok (.aload_n 0, 1) := by decide +kernel
theorem dX6_put_1 : decode cX6_put 1 = .ok (.iload_n 1, 1) := by decide +kernel
theorem dX6_put_2 : decode cX6_put 2 = .ok (.invokevirtual 154, 3) := by decide +kernel
theorem dX6_put_5 : decode cX6_put 5 = .ok (.ifCond .ne 6, 3) := by decide +kernel
theorem dX6_put_8 : decode cX6_put 8 = .ok (.bipush (-101), 2) := by decide +kernel
theorem dX6_put_10 : decode cX6_put 10 = .ok (.ireturn, 1) := by decide +kernel
theorem dX6_put_11 : decode cX6_put 11 = .ok (.iload_n 2, 1) := by decide +kernel
theorem dX6_put_12 : decode cX6_put 12 = .ok (.invokestatic 157, 3) := by decide +kernel
theorem dX6_put_15 : decode cX6_put 15 = .ok (.ifCond .eq 15, 3) := by decide +kernel
theorem dX6_put_18 : decode cX6_put 18 = .ok (.iload_n 3, 1) := by decide +kernel
theorem dX6_put_19 : decode cX6_put 19 = .ok (.iconst (-1), 1) := by decide +kernel
theorem dX6_put_20 : decode cX6_put 20 = .ok (.if_icmp .eq 13, 3) := by decide +kernel
theorem dX6_put_23 : decode cX6_put 23 = .ok (.iload_n 3, 1) := by decide +kernel
theorem dX6_put_24 : decode cX6_put 24 = .ok (.invokestatic 164, 3) := by decide +kernel
theorem dX6_put_27 : decode cX6_put 27 = .ok (.ifCond .ne 6, 3) := by decide +kernel
theorem dX6_put_30 : decode cX6_put 30 = .ok (.bipush (-102), 2) := by decide +kernel
theorem dX6_put_32 : decode cX6_put 32 = .ok (.ireturn, 1) := by decide +kernel
theorem dX6_put_33 : decode cX6_put 33 = .ok (.aload_n 0, 1) := by decide +kernel
theorem dX6_put_34 : decode cX6_put 34 = .ok (.getfield 19, 3) := by decide +kernel
theorem dX6_put_37 : decode cX6_put 37 = .ok (.iload_n 1, 1) := by decide +kernel
theorem dX6_put_38 : decode cX6_put 38 = .ok (.iload_n 2, 1) := by decide +kernel
theorem dX6_put_39 : decode cX6_put 39 = .ok (.invokevirtual 160, 3) := by decide +kernel
theorem dX6_put_42 : decode cX6_put 42 = .ok (.istore 4, 2) := by decide +kernel
theorem dX6_put_44 : decode cX6_put 44 = .ok (.aload_n 0, 1) := by decide +kernel
theorem dX6_put_45 : decode cX6_put 45 = .ok (.getfield 19, 3) := by decide +kernel
theorem dX6_put_48 : decode cX6_put 48 = .ok (.iload_n 1, 1) := by decide +kernel
theorem dX6_put_49 : decode cX6_put 49 = .ok (.iload_n 2, 1) := by decide +kernel
theorem dX6_put_50 : decode cX6_put 50 = .ok (.iload_n 3, 1) := by decide +kernel
theorem dX6_put_51 : decode cX6_put 51 = .ok (.invokevirtual 79, 3) := by decide +kernel
theorem dX6_put_54 : decode cX6_put 54 = .ok (.aload_n 0, 1) := by decide +kernel
theorem dX6_put_55 : decode cX6_put 55 = .ok (.invokevirtual 86, 3) := by decide +kernel
theorem dX6_put_58 : decode cX6_put 58 = .ok (.iload 4, 2) := by decide +kernel
theorem dX6_put_60 : decode cX6_put 60 = .ok (.ireturn, 1) := by decide +kernel
theorem dX6_set_0 : decode cX6_set 0 = .ok (.aload_n 0, 1) := by decide +kernel
theorem dX6_set_1 : decode cX6_set 1 = .ok (.iload_n 1, 1) := by decide +kernel
theorem dX6_set_2 : decode cX6_set 2 = .ok (.invokevirtual 185, 3) := by decide +kernel
theorem dX6_set_5 : decode cX6_set 5 = .ok (.ifCond .ne 6, 3) := by decide +kernel
theorem dX6_set_8 : decode cX6_set 8 = .ok (.bipush (-101), 2) := by decide +kernel
theorem dX6_set_10 : decode cX6_set 10 = .ok (.ireturn, 1) := by decide +kernel
theorem dX6_set_11 : decode cX6_set 11 = .ok (.iload_n 2, 1) := by decide +kernel
theorem dX6_set_12 : decode cX6_set 12 = .ok (.iconst (-1), 1) := by decide +kernel
theorem dX6_set_13 : decode cX6_set 13 = .ok (.if_icmp .lt 9, 3) := by decide +kernel
theorem dX6_set_16 : decode cX6_set 16 = .ok (.iload_n 2, 1) := by decide +kernel
theorem dX6_set_17 : decode cX6_set 17 = .ok (.bipush 14, 2) := by decide +kernel
theorem dX6_set_19 : decode cX6_set 19 = .ok (.if_icmp .lt 6, 3) := by decide +kernel
theorem dX6_set_22 : decode cX6_set 22 = .ok (.bipush (-102), 2) := by decide +kernel
theorem dX6_set_24 : decode cX6_set 24 = .ok (.ireturn, 1) := by decide +kernel
theorem dX6_set_25 : decode cX6_set 25 = .ok (.aload_n 0, 1) := by decide +kernel
theorem dX6_set_26 : decode cX6_set 26 = .ok (.getfield 50, 3) := by decide +kernel
theorem dX6_set_29 : decode cX6_set 29 = .ok (.getfield 198, 3) := by decide +kernel
theorem dX6_set_32 : decode cX6_set 32 = .ok (.iload_n 1, 1) := by decide +kernel
theorem dX6_set_33 : decode cX6_set 33 = .ok (.iaload, 1) := by decide +kernel
theorem dX6_set_34 : decode cX6_set 34 = .ok (.istore_n 3, 1) := by decide +kernel
theorem dX6_set_35 : decode cX6_set 35 = .ok (.aload_n 0, 1) := by decide +kernel
theorem dX6_set_36 : decode cX6_set 36 = .ok (.getfield 50, 3) := by decide +kernel
theorem dX6_set_39 : decode cX6_set 39 = .ok (.getfield 198, 3) := by decide +kernel
theorem dX6_set_42 : decode cX6_set 42 = .ok (.iload_n 1, 1) := by decide +kernel
theorem dX6_set_43 : decode cX6_set 43 = .ok (.iload_n 2, 1) := by decide +kernel
theorem dX6_set_44 : decode cX6_set 44 = .ok (.iastore, 1) := by decide +kernel
theorem dX6_set_45 : decode cX6_set 45 = .ok (.iload_n 3, 1) := by decide +kernel
theorem dX6_set_46 : decode cX6_set 46 = .ok (.ireturn, 1) := by decide +kernel
theorem dX6_cell_0 : decode cX6_cell 0 = .ok (.iload_n 1, 1) := by decide +kernel
theorem dX6_cell_1 : decode cX6_cell 1 = .ok (.ifCond .lt 22, 3) := by decide +kernel
theorem dX6_cell_4 : decode cX6_cell 4 = .ok (.iload_n 1, 1) := by decide +kernel
theorem dX6_cell_5 : decode cX6_cell 5 = .ok (.aload_n 0, 1) := by decide +kernel
theorem dX6_cell_6 : decode cX6_cell 6 = .ok (.getfield 50, 3) := by decide +kernel
theorem dX6_cell_9 : decode cX6_cell 9 = .ok (.invokevirtual 122, 3) := by decide +kernel
theorem dX6_cell_12 : decode cX6_cell 12 = .ok (.if_icmp .ge 11, 3) := by decide +kernel
theorem dX6_cell_15 : decode cX6_cell 15 = .ok (.aload_n 0, 1) := by decide +kernel
theorem dX6_cell_16 : decode cX6_cell 16 = .ok (.iload_n 2, 1) := by decide +kernel
theorem dX6_cell_17 : decode cX6_cell 17 = .ok (.invokevirtual 154, 3) := by decide +kernel
theorem dX6_cell_20 : decode cX6_cell 20 = .ok (.ifCond .ne 6, 3) := by decide +kernel
theorem dX6_cell_23 : decode cX6_cell 23 = .ok (.bipush (-101), 2) := by decide +kernel
theorem dX6_cell_25 : decode cX6_cell 25 = .ok (.ireturn, 1) := by decide +kernel
theorem dX6_cell_26 : decode cX6_cell 26 = .ok (.iload_n 3, 1) := by decide +kernel
theorem dX6_cell_27 : decode cX6_cell 27 = .ok (.lookupswitch 63 #[(0, 25), (1, 42)], 25) := by decide +kernel
theorem dX6_cell_52 : decode cX6_cell 52 = .ok (.aload_n 0, 1) := by decide +kernel
theorem dX6_cell_53 : decode cX6_cell 53 = .ok (.getfield 50, 3) := by decide +kernel
theorem dX6_cell_56 : decode cX6_cell 56 = .ok (.aload_n 0, 1) := by decide +kernel
theorem dX6_cell_57 : decode cX6_cell 57 = .ok (.getfield 26, 3) := by decide +kernel
theorem dX6_cell_60 : decode cX6_cell 60 = .ok (.iload_n 1, 1) := by decide +kernel
theorem dX6_cell_61 : decode cX6_cell 61 = .ok (.iload_n 2, 1) := by decide +kernel
theorem dX6_cell_62 : decode cX6_cell 62 = .ok (.invokevirtual 125, 3) := by decide +kernel
theorem dX6_cell_65 : decode cX6_cell 65 = .ok (.invokestatic 173, 3) := by decide +kernel
theorem dX6_cell_68 : decode cX6_cell 68 = .ok (.ireturn, 1) := by decide +kernel
theorem dX6_cell_69 : decode cX6_cell 69 = .ok (.aload_n 0, 1) := by decide +kernel
theorem dX6_cell_70 : decode cX6_cell 70 = .ok (.getfield 50, 3) := by decide +kernel
theorem dX6_cell_73 : decode cX6_cell 73 = .ok (.aload_n 0, 1) := by decide +kernel
theorem dX6_cell_74 : decode cX6_cell 74 = .ok (.getfield 19, 3) := by decide +kernel
theorem dX6_cell_77 : decode cX6_cell 77 = .ok (.aload_n 0, 1) := by decide +kernel
theorem dX6_cell_78 : decode cX6_cell 78 = .ok (.getfield 26, 3) := by decide +kernel
theorem dX6_cell_81 : decode cX6_cell 81 = .ok (.iload_n 1, 1) := by decide +kernel
theorem dX6_cell_82 : decode cX6_cell 82 = .ok (.iload_n 2, 1) := by decide +kernel
theorem dX6_cell_83 : decode cX6_cell 83 = .ok (.invokevirtual 256, 3) := by decide +kernel
theorem dX6_cell_86 : decode cX6_cell 86 = .ok (.invokestatic 173, 3) := by decide +kernel
theorem dX6_cell_89 : decode cX6_cell 89 = .ok (.ireturn, 1) := by decide +kernel
theorem dX6_cell_90 : decode cX6_cell 90 = .ok (.bipush (-102), 2) := by decide +kernel
theorem dX6_cell_92 : decode cX6_cell 92 = .ok (.ireturn, 1) := by decide +kernel
theorem dX6_count_0 : decode cX6_count 0 = .ok (.iload_n 1, 1) := by decide +kernel
theorem dX6_count_1 : decode cX6_count 1 = .ok (.tableswitch 117 0 8 #[51, 59, 67, 75, 83, 91, 99, 107, 112], 51) := by decide +kernel
theorem dX6_count_52 : decode cX6_count 52 = .ok (.aload_n 0, 1) := by decide +kernel
theorem dX6_count_53 : decode cX6_count 53 = .ok (.getfield 19, 3) := by decide +kernel
theorem dX6_count_56 : decode cX6_count 56 = .ok (.getfield 72, 3) := by decide +kernel
theorem dX6_count_59 : decode cX6_count 59 = .ok (.ireturn, 1) := by decide +kernel
theorem dX6_count_60 : decode cX6_count 60 = .ok (.aload_n 0, 1) := by decide +kernel
theorem dX6_count_61 : decode cX6_count 61 = .ok (.getfield 19, 3) := by decide +kernel
theorem dX6_count_64 : decode cX6_count 64 = .ok (.invokevirtual 260, 3) := by decide +kernel
theorem dX6_count_67 : decode cX6_count 67 = .ok (.ireturn, 1) := by decide +kernel
theorem dX6_count_68 : decode cX6_count 68 = .ok (.aload_n 0, 1) := by decide +kernel
theorem dX6_count_69 : decode cX6_count 69 = .ok (.getfield 19, 3) := by decide +kernel
theorem dX6_count_72 : decode cX6_count 72 = .ok (.invokevirtual 263, 3) := by decide +kernel
theorem dX6_count_75 : decode cX6_count 75 = .ok (.ireturn, 1) := by decide +kernel
theorem dX6_count_76 : decode cX6_count 76 = .ok (.aload_n 0, 1) := by decide +kernel
theorem dX6_count_77 : decode cX6_count 77 = .ok (.getfield 83, 3) := by decide +kernel
theorem dX6_count_80 : decode cX6_count 80 = .ok (.invokestatic 204, 3) := by decide +kernel
theorem dX6_count_83 : decode cX6_count 83 = .ok (.ireturn, 1) := by decide +kernel
theorem dX6_count_84 : decode cX6_count 84 = .ok (.aload_n 0, 1) := by decide +kernel
theorem dX6_count_85 : decode cX6_count 85 = .ok (.getfield 26, 3) := by decide +kernel
theorem dX6_count_88 : decode cX6_count 88 = .ok (.getfield 132, 3) := by decide +kernel
theorem dX6_count_91 : decode cX6_count 91 = .ok (.ireturn, 1) := by decide +kernel
theorem dX6_count_92 : decode cX6_count 92 = .ok (.aload_n 0, 1) := by decide +kernel
theorem dX6_count_93 : decode cX6_count 93 = .ok (.getfield 50, 3) := by decide +kernel
theorem dX6_count_96 : decode cX6_count 96 = .ok (.invokevirtual 231, 3) := by decide +kernel
theorem dX6_count_99 : decode cX6_count 99 = .ok (.ireturn, 1) := by decide +kernel
theorem dX6_count_100 : decode cX6_count 100 = .ok (.aload_n 0, 1) := by decide +kernel
theorem dX6_count_101 : decode cX6_count 101 = .ok (.getfield 10, 3) := by decide +kernel
theorem dX6_count_104 : decode cX6_count 104 = .ok (.getfield 54, 3) := by decide +kernel
theorem dX6_count_107 : decode cX6_count 107 = .ok (.ireturn, 1) := by decide +kernel
theorem dX6_count_108 : decode cX6_count 108 = .ok (.aload_n 0, 1) := by decide +kernel
theorem dX6_count_109 : decode cX6_count 109 = .ok (.getfield 89, 3) := by decide +kernel
theorem dX6_count_112 : decode cX6_count 112 = .ok (.ireturn, 1) := by decide +kernel
theorem dX6_count_113 : decode cX6_count 113 = .ok (.aload_n 0, 1) := by decide +kernel
theorem dX6_count_114 : decode cX6_count 114 = .ok (.getfield 244, 3) := by decide +kernel
theorem dX6_count_117 : decode cX6_count 117 = .ok (.ireturn, 1) := by decide +kernel
theorem dX6_count_118 : decode cX6_count 118 = .ok (.bipush (-102), 2) := by decide +kernel
theorem dX6_count_120 : decode cX6_count 120 = .ok (.ireturn, 1) := by decide +kernel
theorem dX6_mix_0 : decode cX6_mix 0 = .ok (.ldc2_w 287, 3) := by decide +kernel
theorem dX6_mix_3 : decode cX6_mix 3 = .ok (.lload_n 0, 1) := by decide +kernel
theorem dX6_mix_4 : decode cX6_mix 4 = .ok (.lmul, 1) := by decide +kernel
theorem dX6_mix_5 : decode cX6_mix 5 = .ok (.iload_n 2, 1) := by decide +kernel
theorem dX6_mix_6 : decode cX6_mix 6 = .ok (.i2l, 1) := by decide +kernel
theorem dX6_mix_7 : decode cX6_mix 7 = .ok (.ladd, 1) := by decide +kernel
theorem dX6_mix_8 : decode cX6_mix 8 = .ok (.lreturn, 1) := by decide +kernel
theorem dX6_digestChannel_0 : decode cX6_digestChannel 0 = .ok (.lload_n 1, 1) := by decide +kernel
theorem dX6_digestChannel_1 : decode cX6_digestChannel 1 = .ok (.lstore_n 3, 1) := by decide +kernel
theorem dX6_digestChannel_2 : decode cX6_digestChannel 2 = .ok (.iconst 0, 1) := by decide +kernel
theorem dX6_digestChannel_3 : decode cX6_digestChannel 3 = .ok (.istore 5, 2) := by decide +kernel
theorem dX6_digestChannel_5 : decode cX6_digestChannel 5 = .ok (.iload 5, 2) := by decide +kernel
theorem dX6_digestChannel_7 : decode cX6_digestChannel 7 = .ok (.bipush 9, 2) := by decide +kernel
theorem dX6_digestChannel_9 : decode cX6_digestChannel 9 = .ok (.if_icmp .gt 20, 3) := by decide +kernel
theorem dX6_digestChannel_12 : decode cX6_digestChannel 12 = .ok (.lload_n 3, 1) := by decide +kernel
theorem dX6_digestChannel_13 : decode cX6_digestChannel 13 = .ok (.aload_n 0, 1) := by decide +kernel
theorem dX6_digestChannel_14 : decode cX6_digestChannel 14 = .ok (.iload 5, 2) := by decide +kernel
theorem dX6_digestChannel_16 : decode cX6_digestChannel 16 = .ok (.invokevirtual 289, 3) := by decide +kernel
theorem dX6_digestChannel_19 : decode cX6_digestChannel 19 = .ok (.invokestatic 280, 3) := by decide +kernel
theorem dX6_digestChannel_22 : decode cX6_digestChannel 22 = .ok (.lstore_n 3, 1) := by decide +kernel
theorem dX6_digestChannel_23 : decode cX6_digestChannel 23 = .ok (.iinc 5 1, 3) := by decide +kernel
theorem dX6_digestChannel_26 : decode cX6_digestChannel 26 = .ok (.goto (-21), 3) := by decide +kernel
theorem dX6_digestChannel_29 : decode cX6_digestChannel 29 = .ok (.iconst 0, 1) := by decide +kernel
theorem dX6_digestChannel_30 : decode cX6_digestChannel 30 = .ok (.istore 5, 2) := by decide +kernel
theorem dX6_digestChannel_32 : decode cX6_digestChannel 32 = .ok (.iload 5, 2) := by decide +kernel
theorem dX6_digestChannel_34 : decode cX6_digestChannel 34 = .ok (.aload_n 0, 1) := by decide +kernel
theorem dX6_digestChannel_35 : decode cX6_digestChannel 35 = .ok (.getfield 19, 3) := by decide +kernel
theorem dX6_digestChannel_38 : decode cX6_digestChannel 38 = .ok (.getfield 72, 3) := by decide +kernel
theorem dX6_digestChannel_41 : decode cX6_digestChannel 41 = .ok (.if_icmp .ge 39, 3) := by decide +kernel
theorem dX6_digestChannel_44 : decode cX6_digestChannel 44 = .ok (.lload_n 3, 1) := by decide +kernel
theorem dX6_digestChannel_45 : decode cX6_digestChannel 45 = .ok (.aload_n 0, 1) := by decide +kernel
theorem dX6_digestChannel_46 : decode cX6_digestChannel 46 = .ok (.getfield 19, 3) := by decide +kernel
theorem dX6_digestChannel_49 : decode cX6_digestChannel 49 = .ok (.iload 5, 2) := by decide +kernel
theorem dX6_digestChannel_51 : decode cX6_digestChannel 51 = .ok (.iconst 0, 1) := by decide +kernel
theorem dX6_digestChannel_52 : decode cX6_digestChannel 52 = .ok (.invokevirtual 160, 3) := by decide +kernel
theorem dX6_digestChannel_55 : decode cX6_digestChannel 55 = .ok (.invokestatic 280, 3) := by decide +kernel
theorem dX6_digestChannel_58 : decode cX6_digestChannel 58 = .ok (.lstore_n 3, 1) := by decide +kernel
theorem dX6_digestChannel_59 : decode cX6_digestChannel 59 = .ok (.lload_n 3, 1) := by decide +kernel
theorem dX6_digestChannel_60 : decode cX6_digestChannel 60 = .ok (.aload_n 0, 1) := by decide +kernel
theorem dX6_digestChannel_61 : decode cX6_digestChannel 61 = .ok (.getfield 19, 3) := by decide +kernel
theorem dX6_digestChannel_64 : decode cX6_digestChannel 64 = .ok (.iload 5, 2) := by decide +kernel
theorem dX6_digestChannel_66 : decode cX6_digestChannel 66 = .ok (.iconst 1, 1) := by decide +kernel
theorem dX6_digestChannel_67 : decode cX6_digestChannel 67 = .ok (.invokevirtual 160, 3) := by decide +kernel
theorem dX6_digestChannel_70 : decode cX6_digestChannel 70 = .ok (.invokestatic 280, 3) := by decide +kernel
theorem dX6_digestChannel_73 : decode cX6_digestChannel 73 = .ok (.lstore_n 3, 1) := by decide +kernel
theorem dX6_digestChannel_74 : decode cX6_digestChannel 74 = .ok (.iinc 5 1, 3) := by decide +kernel
theorem dX6_digestChannel_77 : decode cX6_digestChannel 77 = .ok (.goto (-45), 3) := by decide +kernel
theorem dX6_digestChannel_80 : decode cX6_digestChannel 80 = .ok (.iconst 0, 1) := by decide +kernel
theorem dX6_digestChannel_81 : decode cX6_digestChannel 81 = .ok (.istore 5, 2) := by decide +kernel
theorem dX6_digestChannel_83 : decode cX6_digestChannel 83 = .ok (.iload 5, 2) := by decide +kernel
theorem dX6_digestChannel_85 : decode cX6_digestChannel 85 = .ok (.bipush 6, 2) := by decide +kernel
theorem dX6_digestChannel_87 : decode cX6_digestChannel 87 = .ok (.if_icmp .ge 28, 3) := by decide +kernel
theorem dX6_digestChannel_90 : decode cX6_digestChannel 90 = .ok (.lload_n 3, 1) := by decide +kernel
theorem dX6_digestChannel_91 : decode cX6_digestChannel 91 = .ok (.aload_n 0, 1) := by decide +kernel
theorem dX6_digestChannel_92 : decode cX6_digestChannel 92 = .ok (.iload 5, 2) := by decide +kernel
theorem dX6_digestChannel_94 : decode cX6_digestChannel 94 = .ok (.invokevirtual 179, 3) := by decide +kernel
theorem dX6_digestChannel_97 : decode cX6_digestChannel 97 = .ok (.ifCond .eq 7, 3) := by decide +kernel
theorem dX6_digestChannel_100 : decode cX6_digestChannel 100 = .ok (.iconst 1, 1) := by decide +kernel
theorem dX6_digestChannel_101 : decode cX6_digestChannel 101 = .ok (.goto 4, 3) := by decide +kernel
theorem dX6_digestChannel_104 : decode cX6_digestChannel 104 = .ok (.iconst 0, 1) := by decide +kernel
theorem dX6_digestChannel_105 : decode cX6_digestChannel 105 = .ok (.invokestatic 280, 3) := by decide +kernel
theorem dX6_digestChannel_108 : decode cX6_digestChannel 108 = .ok (.lstore_n 3, 1) := by decide +kernel
theorem dX6_digestChannel_109 : decode cX6_digestChannel 109 = .ok (.iinc 5 1, 3) := by decide +kernel
theorem dX6_digestChannel_112 : decode cX6_digestChannel 112 = .ok (.goto (-29), 3) := by decide +kernel
theorem dX6_digestChannel_115 : decode cX6_digestChannel 115 = .ok (.lload_n 3, 1) := by decide +kernel
theorem dX6_digestChannel_116 : decode cX6_digestChannel 116 = .ok (.lreturn, 1) := by decide +kernel
theorem dX6_digestSegments_0 : decode cX6_digestSegments 0 = .ok (.lload_n 1, 1) := by decide +kernel
theorem dX6_digestSegments_1 : decode cX6_digestSegments 1 = .ok (.lstore_n 3, 1) := by decide +kernel
theorem dX6_digestSegments_2 : decode cX6_digestSegments 2 = .ok (.iconst 0, 1) := by decide +kernel
theorem dX6_digestSegments_3 : decode cX6_digestSegments 3 = .ok (.istore 5, 2) := by decide +kernel
theorem dX6_digestSegments_5 : decode cX6_digestSegments 5 = .ok (.iload 5, 2) := by decide +kernel
theorem dX6_digestSegments_7 : decode cX6_digestSegments 7 = .ok (.aload_n 0, 1) := by decide +kernel
theorem dX6_digestSegments_8 : decode cX6_digestSegments 8 = .ok (.getfield 26, 3) := by decide +kernel
theorem dX6_digestSegments_11 : decode cX6_digestSegments 11 = .ok (.getfield 132, 3) := by decide +kernel
theorem dX6_digestSegments_14 : decode cX6_digestSegments 14 = .ok (.if_icmp .ge 38, 3) := by decide +kernel
theorem dX6_digestSegments_17 : decode cX6_digestSegments 17 = .ok (.iconst 0, 1) := by decide +kernel
theorem dX6_digestSegments_18 : decode cX6_digestSegments 18 = .ok (.istore 6, 2) := by decide +kernel
theorem dX6_digestSegments_20 : decode cX6_digestSegments 20 = .ok (.iload 6, 2) := by decide +kernel
theorem dX6_digestSegments_22 : decode cX6_digestSegments 22 = .ok (.bipush 6, 2) := by decide +kernel
theorem dX6_digestSegments_24 : decode cX6_digestSegments 24 = .ok (.if_icmp .gt 22, 3) := by decide +kernel
theorem dX6_digestSegments_27 : decode cX6_digestSegments 27 = .ok (.lload_n 3, 1) := by decide +kernel
theorem dX6_digestSegments_28 : decode cX6_digestSegments 28 = .ok (.aload_n 0, 1) := by decide +kernel
theorem dX6_digestSegments_29 : decode cX6_digestSegments 29 = .ok (.iload 5, 2) := by decide +kernel
theorem dX6_digestSegments_31 : decode cX6_digestSegments 31 = .ok (.iload 6, 2) := by decide +kernel
theorem dX6_digestSegments_33 : decode cX6_digestSegments 33 = .ok (.invokevirtual 292, 3) := by decide +kernel
theorem dX6_digestSegments_36 : decode cX6_digestSegments 36 = .ok (.invokestatic 280, 3) := by decide +kernel
theorem dX6_digestSegments_39 : decode cX6_digestSegments 39 = .ok (.lstore_n 3, 1) := by decide +kernel
theorem dX6_digestSegments_40 : decode cX6_digestSegments 40 = .ok (.iinc 6 1, 3) := by decide +kernel
theorem dX6_digestSegments_43 : decode cX6_digestSegments 43 = .ok (.goto (-23), 3) := by decide +kernel
theorem dX6_digestSegments_46 : decode cX6_digestSegments 46 = .ok (.iinc 5 1, 3) := by decide +kernel
theorem dX6_digestSegments_49 : decode cX6_digestSegments 49 = .ok (.goto (-44), 3) := by decide +kernel
theorem dX6_digestSegments_52 : decode cX6_digestSegments 52 = .ok (.iconst 0, 1) := by decide +kernel
theorem dX6_digestSegments_53 : decode cX6_digestSegments 53 = .ok (.istore 5, 2) := by decide +kernel
theorem dX6_digestSegments_55 : decode cX6_digestSegments 55 = .ok (.iload 5, 2) := by decide +kernel
theorem dX6_digestSegments_57 : decode cX6_digestSegments 57 = .ok (.aload_n 0, 1) := by decide +kernel
theorem dX6_digestSegments_58 : decode cX6_digestSegments 58 = .ok (.getfield 36, 3) := by decide +kernel
theorem dX6_digestSegments_61 : decode cX6_digestSegments 61 = .ok (.getfield 141, 3) := by decide +kernel
theorem dX6_digestSegments_64 : decode cX6_digestSegments 64 = .ok (.if_icmp .ge 20, 3) := by decide +kernel
theorem dX6_digestSegments_67 : decode cX6_digestSegments 67 = .ok (.lload_n 3, 1) := by decide +kernel
theorem dX6_digestSegments_68 : decode cX6_digestSegments 68 = .ok (.aload_n 0, 1) := by decide +kernel
theorem dX6_digestSegments_69 : decode cX6_digestSegments 69 = .ok (.iload 5, 2) := by decide +kernel
theorem dX6_digestSegments_71 : decode cX6_digestSegments 71 = .ok (.invokevirtual 294, 3) := by decide +kernel
theorem dX6_digestSegments_74 : decode cX6_digestSegments 74 = .ok (.invokestatic 280, 3) := by decide +kernel
theorem dX6_digestSegments_77 : decode cX6_digestSegments 77 = .ok (.lstore_n 3, 1) := by decide +kernel
theorem dX6_digestSegments_78 : decode cX6_digestSegments 78 = .ok (.iinc 5 1, 3) := by decide +kernel
theorem dX6_digestSegments_81 : decode cX6_digestSegments 81 = .ok (.goto (-26), 3) := by decide +kernel
theorem dX6_digestSegments_84 : decode cX6_digestSegments 84 = .ok (.iconst 0, 1) := by decide +kernel
theorem dX6_digestSegments_85 : decode cX6_digestSegments 85 = .ok (.istore 5, 2) := by decide +kernel
theorem dX6_digestSegments_87 : decode cX6_digestSegments 87 = .ok (.iload 5, 2) := by decide +kernel
theorem dX6_digestSegments_89 : decode cX6_digestSegments 89 = .ok (.aload_n 0, 1) := by decide +kernel
theorem dX6_digestSegments_90 : decode cX6_digestSegments 90 = .ok (.getfield 43, 3) := by decide +kernel
theorem dX6_digestSegments_93 : decode cX6_digestSegments 93 = .ok (.getfield 145, 3) := by decide +kernel
theorem dX6_digestSegments_96 : decode cX6_digestSegments 96 = .ok (.if_icmp .ge 20, 3) := by decide +kernel
theorem dX6_digestSegments_99 : decode cX6_digestSegments 99 = .ok (.lload_n 3, 1) := by decide +kernel
theorem dX6_digestSegments_100 : decode cX6_digestSegments 100 = .ok (.aload_n 0, 1) := by decide +kernel
theorem dX6_digestSegments_101 : decode cX6_digestSegments 101 = .ok (.iload 5, 2) := by decide +kernel
theorem dX6_digestSegments_103 : decode cX6_digestSegments 103 = .ok (.invokevirtual 297, 3) := by decide +kernel
theorem dX6_digestSegments_106 : decode cX6_digestSegments 106 = .ok (.invokestatic 280, 3) := by decide +kernel
theorem dX6_digestSegments_109 : decode cX6_digestSegments 109 = .ok (.lstore_n 3, 1) := by decide +kernel
theorem dX6_digestSegments_110 : decode cX6_digestSegments 110 = .ok (.iinc 5 1, 3) := by decide +kernel
theorem dX6_digestSegments_113 : decode cX6_digestSegments 113 = .ok (.goto (-26), 3) := by decide +kernel
theorem dX6_digestSegments_116 : decode cX6_digestSegments 116 = .ok (.lload_n 3, 1) := by decide +kernel
theorem dX6_digestSegments_117 : decode cX6_digestSegments 117 = .ok (.lreturn, 1) := by decide +kernel
theorem dX6_digestPlan_0 : decode cX6_digestPlan 0 = .ok (.lload_n 1, 1) := by decide +kernel
theorem dX6_digestPlan_1 : decode cX6_digestPlan 1 = .ok (.lstore_n 3, 1) := by decide +kernel
theorem dX6_digestPlan_2 : decode cX6_digestPlan 2 = .ok (.aload_n 0, 1) := by decide +kernel
theorem dX6_digestPlan_3 : decode cX6_digestPlan 3 = .ok (.getfield 50, 3) := by decide +kernel
theorem dX6_digestPlan_6 : decode cX6_digestPlan 6 = .ok (.invokevirtual 122, 3) := by decide +kernel
theorem dX6_digestPlan_9 : decode cX6_digestPlan 9 = .ok (.istore 5, 2) := by decide +kernel
theorem dX6_digestPlan_11 : decode cX6_digestPlan 11 = .ok (.iload 5, 2) := by decide +kernel
theorem dX6_digestPlan_13 : decode cX6_digestPlan 13 = .ok (.aload_n 0, 1) := by decide +kernel
theorem dX6_digestPlan_14 : decode cX6_digestPlan 14 = .ok (.getfield 19, 3) := by decide +kernel
theorem dX6_digestPlan_17 : decode cX6_digestPlan 17 = .ok (.getfield 72, 3) := by decide +kernel
theorem dX6_digestPlan_20 : decode cX6_digestPlan 20 = .ok (.iconst 1, 1) := by decide +kernel
theorem dX6_digestPlan_21 : decode cX6_digestPlan 21 = .ok (.iadd, 1) := by decide +kernel
theorem dX6_digestPlan_22 : decode cX6_digestPlan 22 = .ok (.imul, 1) := by decide +kernel
theorem dX6_digestPlan_23 : decode cX6_digestPlan 23 = .ok (.iconst 1, 1) := by decide +kernel
theorem dX6_digestPlan_24 : decode cX6_digestPlan 24 = .ok (.isub, 1) := by decide +kernel
theorem dX6_digestPlan_25 : decode cX6_digestPlan 25 = .ok (.istore 6, 2) := by decide +kernel
theorem dX6_digestPlan_27 : decode cX6_digestPlan 27 = .ok (.iconst 0, 1) := by decide +kernel
theorem dX6_digestPlan_28 : decode cX6_digestPlan 28 = .ok (.istore 7, 2) := by decide +kernel
theorem dX6_digestPlan_30 : decode cX6_digestPlan 30 = .ok (.iload 7, 2) := by decide +kernel
theorem dX6_digestPlan_32 : decode cX6_digestPlan 32 = .ok (.iload 6, 2) := by decide +kernel
theorem dX6_digestPlan_34 : decode cX6_digestPlan 34 = .ok (.if_icmp .ge 20, 3) := by decide +kernel
theorem dX6_digestPlan_37 : decode cX6_digestPlan 37 = .ok (.lload_n 3, 1) := by decide +kernel
theorem dX6_digestPlan_38 : decode cX6_digestPlan 38 = .ok (.aload_n 0, 1) := by decide +kernel
theorem dX6_digestPlan_39 : decode cX6_digestPlan 39 = .ok (.iload 7, 2) := by decide +kernel
theorem dX6_digestPlan_41 : decode cX6_digestPlan 41 = .ok (.invokevirtual 300, 3) := by decide +kernel
theorem dX6_digestPlan_44 : decode cX6_digestPlan 44 = .ok (.invokestatic 280, 3) := by decide +kernel
theorem dX6_digestPlan_47 : decode cX6_digestPlan 47 = .ok (.lstore_n 3, 1) := by decide +kernel
theorem dX6_digestPlan_48 : decode cX6_digestPlan 48 = .ok (.iinc 7 1, 3) := by decide +kernel
theorem dX6_digestPlan_51 : decode cX6_digestPlan 51 = .ok (.goto (-21), 3) := by decide +kernel
theorem dX6_digestPlan_54 : decode cX6_digestPlan 54 = .ok (.iconst 0, 1) := by decide +kernel
theorem dX6_digestPlan_55 : decode cX6_digestPlan 55 = .ok (.istore 7, 2) := by decide +kernel
theorem dX6_digestPlan_57 : decode cX6_digestPlan 57 = .ok (.iload 7, 2) := by decide +kernel
theorem dX6_digestPlan_59 : decode cX6_digestPlan 59 = .ok (.iload 5, 2) := by decide +kernel
theorem dX6_digestPlan_61 : decode cX6_digestPlan 61 = .ok (.if_icmp .ge 44, 3) := by decide +kernel
theorem dX6_digestPlan_64 : decode cX6_digestPlan 64 = .ok (.iconst 0, 1) := by decide +kernel
theorem dX6_digestPlan_65 : decode cX6_digestPlan 65 = .ok (.istore 8, 2) := by decide +kernel
theorem dX6_digestPlan_67 : decode cX6_digestPlan 67 = .ok (.iload 8, 2) := by decide +kernel
theorem dX6_digestPlan_69 : decode cX6_digestPlan 69 = .ok (.aload_n 0, 1) := by decide +kernel
theorem dX6_digestPlan_70 : decode cX6_digestPlan 70 = .ok (.getfield 19, 3) := by decide +kernel
theorem dX6_digestPlan_73 : decode cX6_digestPlan 73 = .ok (.getfield 72, 3) := by decide +kernel
theorem dX6_digestPlan_76 : decode cX6_digestPlan 76 = .ok (.if_icmp .ge 23, 3) := by decide +kernel
theorem dX6_digestPlan_79 : decode cX6_digestPlan 79 = .ok (.lload_n 3, 1) := by decide +kernel
theorem dX6_digestPlan_80 : decode cX6_digestPlan 80 = .ok (.aload_n 0, 1) := by decide +kernel
theorem dX6_digestPlan_81 : decode cX6_digestPlan 81 = .ok (.iload 7, 2) := by decide +kernel
theorem dX6_digestPlan_83 : decode cX6_digestPlan 83 = .ok (.iload 8, 2) := by decide +kernel
theorem dX6_digestPlan_85 : decode cX6_digestPlan 85 = .ok (.iconst 1, 1) := by decide +kernel
theorem dX6_digestPlan_86 : decode cX6_digestPlan 86 = .ok (.invokevirtual 303, 3) := by decide +kernel
theorem dX6_digestPlan_89 : decode cX6_digestPlan 89 = .ok (.invokestatic 280, 3) := by decide +kernel
theorem dX6_digestPlan_92 : decode cX6_digestPlan 92 = .ok (.lstore_n 3, 1) := by decide +kernel
theorem dX6_digestPlan_93 : decode cX6_digestPlan 93 = .ok (.iinc 8 1, 3) := by decide +kernel
theorem dX6_digestPlan_96 : decode cX6_digestPlan 96 = .ok (.goto (-29), 3) := by decide +kernel
theorem dX6_digestPlan_99 : decode cX6_digestPlan 99 = .ok (.iinc 7 1, 3) := by decide +kernel
theorem dX6_digestPlan_102 : decode cX6_digestPlan 102 = .ok (.goto (-45), 3) := by decide +kernel
theorem dX6_digestPlan_105 : decode cX6_digestPlan 105 = .ok (.lload_n 3, 1) := by decide +kernel
theorem dX6_digestPlan_106 : decode cX6_digestPlan 106 = .ok (.lreturn, 1) := by decide +kernel
theorem dX6_digest_0 : decode cX6_digest 0 = .ok (.ldc2_w 265, 3) := by decide +kernel
theorem dX6_digest_3 : decode cX6_digest 3 = .ok (.lstore_n 1, 1) := by decide +kernel
theorem dX6_digest_4 : decode cX6_digest 4 = .ok (.aload_n 0, 1) := by decide +kernel
theorem dX6_digest_5 : decode cX6_digest 5 = .ok (.invokevirtual 118, 3) := by decide +kernel
theorem dX6_digest_8 : decode cX6_digest 8 = .ok (.ifCond .eq 21, 3) := by decide +kernel
theorem dX6_digest_11 : decode cX6_digest 11 = .ok (.aload_n 0, 1) := by decide +kernel
theorem dX6_digest_12 : decode cX6_digest 12 = .ok (.lload_n 1, 1) := by decide +kernel
theorem dX6_digest_13 : decode cX6_digest 13 = .ok (.invokevirtual 267, 3) := by decide +kernel
theorem dX6_digest_16 : decode cX6_digest 16 = .ok (.lstore_n 1, 1) := by decide +kernel
theorem dX6_digest_17 : decode cX6_digest 17 = .ok (.aload_n 0, 1) := by decide +kernel
theorem dX6_digest_18 : decode cX6_digest 18 = .ok (.lload_n 1, 1) := by decide +kernel
theorem dX6_digest_19 : decode cX6_digest 19 = .ok (.invokevirtual 271, 3) := by decide +kernel
theorem dX6_digest_22 : decode cX6_digest 22 = .ok (.lstore_n 1, 1) := by decide +kernel
theorem dX6_digest_23 : decode cX6_digest 23 = .ok (.aload_n 0, 1) := by decide +kernel
theorem dX6_digest_24 : decode cX6_digest 24 = .ok (.lload_n 1, 1) := by decide +kernel
theorem dX6_digest_25 : decode cX6_digest 25 = .ok (.invokevirtual 274, 3) := by decide +kernel
theorem dX6_digest_28 : decode cX6_digest 28 = .ok (.lstore_n 1, 1) := by decide +kernel
theorem dX6_digest_29 : decode cX6_digest 29 = .ok (.iconst 0, 1) := by decide +kernel
theorem dX6_digest_30 : decode cX6_digest 30 = .ok (.istore_n 3, 1) := by decide +kernel
theorem dX6_digest_31 : decode cX6_digest 31 = .ok (.iload_n 3, 1) := by decide +kernel
theorem dX6_digest_32 : decode cX6_digest 32 = .ok (.aload_n 0, 1) := by decide +kernel
theorem dX6_digest_33 : decode cX6_digest 33 = .ok (.getfield 10, 3) := by decide +kernel
theorem dX6_digest_36 : decode cX6_digest 36 = .ok (.getfield 54, 3) := by decide +kernel
theorem dX6_digest_39 : decode cX6_digest 39 = .ok (.if_icmp .ge 23, 3) := by decide +kernel
theorem dX6_digest_42 : decode cX6_digest 42 = .ok (.lload_n 1, 1) := by decide +kernel
theorem dX6_digest_43 : decode cX6_digest 43 = .ok (.aload_n 0, 1) := by decide +kernel
theorem dX6_digest_44 : decode cX6_digest 44 = .ok (.getfield 10, 3) := by decide +kernel
theorem dX6_digest_47 : decode cX6_digest 47 = .ok (.getfield 277, 3) := by decide +kernel
theorem dX6_digest_50 : decode cX6_digest 50 = .ok (.iload_n 3, 1) := by decide +kernel
theorem dX6_digest_51 : decode cX6_digest 51 = .ok (.iaload, 1) := by decide +kernel
theorem dX6_digest_52 : decode cX6_digest 52 = .ok (.invokestatic 280, 3) := by decide +kernel
theorem dX6_digest_55 : decode cX6_digest 55 = .ok (.lstore_n 1, 1) := by decide +kernel
theorem dX6_digest_56 : decode cX6_digest 56 = .ok (.iinc 3 1, 3) := by decide +kernel
theorem dX6_digest_59 : decode cX6_digest 59 = .ok (.goto (-28), 3) := by decide +kernel
theorem dX6_digest_62 : decode cX6_digest 62 = .ok (.iconst 0, 1) := by decide +kernel
theorem dX6_digest_63 : decode cX6_digest 63 = .ok (.istore_n 3, 1) := by decide +kernel
theorem dX6_digest_64 : decode cX6_digest 64 = .ok (.iload_n 3, 1) := by decide +kernel
theorem dX6_digest_65 : decode cX6_digest 65 = .ok (.bipush 8, 2) := by decide +kernel
theorem dX6_digest_67 : decode cX6_digest 67 = .ok (.if_icmp .gt 19, 3) := by decide +kernel
theorem dX6_digest_70 : decode cX6_digest 70 = .ok (.lload_n 1, 1) := by decide +kernel
theorem dX6_digest_71 : decode cX6_digest 71 = .ok (.aload_n 0, 1) := by decide +kernel
theorem dX6_digest_72 : decode cX6_digest 72 = .ok (.iload_n 3, 1) := by decide +kernel
theorem dX6_digest_73 : decode cX6_digest 73 = .ok (.invokevirtual 284, 3) := by decide +kernel
theorem dX6_digest_76 : decode cX6_digest 76 = .ok (.invokestatic 280, 3) := by decide +kernel
theorem dX6_digest_79 : decode cX6_digest 79 = .ok (.lstore_n 1, 1) := by decide +kernel
theorem dX6_digest_80 : decode cX6_digest 80 = .ok (.iinc 3 1, 3) := by decide +kernel
theorem dX6_digest_83 : decode cX6_digest 83 = .ok (.goto (-19), 3) := by decide +kernel
theorem dX6_digest_86 : decode cX6_digest 86 = .ok (.lload_n 1, 1) := by decide +kernel
theorem dX6_digest_87 : decode cX6_digest 87 = .ok (.lreturn, 1) := by decide +kernel
end
section
def f_X7_within (a0 : Int32) (a1 : Int32) (a2 : Int32) (σ : xSt) : Option (Int32 × xSt) := jn (fun (v4 : Int32) (s5 : xSt) => gb v4 (some (v4, s5))) (fun j6 => jn (fun (v7 : Unit) (s8 : xSt) => j6 0 s8) (fun j9 => if a0 < a1 then (j9 () σ) else (if a2 < a0 then (j9 () σ) else (j6 1 σ))))
def f_X7_isBit (a0 : Int32) (a1 : Int32) (σ : xSt) : Option (Int32 × xSt) := jn (fun (v1 : Int32) (s2 : xSt) => gb v1 (some (v1, s2))) (fun j3 => if ((a0 >>> (a1 &&& 31)) &&& 1) = 1 then (j3 1 σ) else (j3 0 σ))
def f_X7_size_4 (w0 : Int32) (k : Int32 → xSt → Option (Int32 × xSt)) : Nat → Int32 → Int32 → xSt → Option (Int32 × xSt)
  | 0, _, _, _ => none
  | n + 1, w1, w2, σ => if 16 ≤ w2 then (k w1 σ) else (vb (w1 + ((w0 >>> (w2 &&& 31)) &&& 1)) (fun x1 => f_X7_size_4 w0 k n x1 (w2 + 1) σ))
def f_X7_size (a0 : Int32) (σ : xSt) : Option (Int32 × xSt) := f_X7_size_4 a0 (fun (e2 : Int32) (s3 : xSt) => some (e2, s3)) FU 0 0 σ
def f_X7_leastOf_2 (w0 : Int32) (k : Int32 → xSt → Option (Int32 × xSt)) : Nat → Int32 → xSt → Option (Int32 × xSt)
  | 0, _, _ => none
  | n + 1, w1, σ => if 16 ≤ w1 then (k w1 σ) else (bnd (f_X7_isBit w0 w1 σ) (fun r1 s2 => if r1 = 0 then (f_X7_leastOf_2 w0 k n (w1 + 1) s2) else (k w1 s2)))
def f_X7_leastOf (a0 : Int32) (σ : xSt) : Option (Int32 × xSt) := f_X7_leastOf_2 a0 (fun (e3 : Int32) (s4 : xSt) => jn (fun (v5 : Int32) (s6 : xSt) => some (v5, s6)) (fun j7 => if 16 ≤ e3 then (j7 (-1) s4) else (j7 e3 s4))) FU 0 σ
def f_X7_letter (a1 : Int32) (σ : xSt) : Option (Int32 × xSt) := bnd (f_X7_within a1 32 126 σ) (fun r1 s2 => if r1 = 0 then (some ((-102), s2)) else (if (s2.1 0 14) = 20 then (some ((-104), s2)) else (gi (s2.1 0 14) 20 (vb (up2 s2 9 (s2.1 0 14).toNatClampNeg a1) (fun s3 => vb (up2 s3 0 14 ((s3.1 0 14) + 1)) (fun s4 => some (s4.1 0 14, s4)))))))
def f_X7_blank (σ : xSt) : Option (Int32 × xSt) := vb (σ.1 0 14) (fun x1 => vb (up2 σ 0 14 0) (fun s2 => some (x1, s2)))
def f_X7_isPin (a0 : Int32) (σ : xSt) : Option (Int32 × xSt) := jn (fun (v8 : Int32) (s9 : xSt) => gb v8 (some (v8, s9))) (fun j10 => jn (fun (v13 : Unit) (s14 : xSt) => j10 1 s14) (fun j15 => if a0 = 46 then (j15 () σ) else (bnd (f_X7_within a0 97 102 σ) (fun r16 s17 => if r16 = 0 then (j10 0 s17) else (j15 () s17)))))
def f_X7_pinsFrom_2 (w1 : Int32) (w2 : Int32) (k : Int32 → xSt → Option (Int32 × xSt)) : Nat → Int32 → xSt → Option (Int32 × xSt)
  | 0, _, _ => none
  | n + 1, w3, σ => if w2 ≤ w3 then (k w3 σ) else (if (σ.1 0 14) ≤ (w1 + w3) then (k w3 σ) else (gi (w1 + w3) 20 (bnd (f_X7_isPin (σ.1 9 (w1 + w3).toNatClampNeg) σ) (fun r1 s2 => if r1 = 0 then (k w3 s2) else (f_X7_pinsFrom_2 w1 w2 k n (w3 + 1) s2)))))
def f_X7_pinsFrom (a1 : Int32) (a2 : Int32) (σ : xSt) : Option (Int32 × xSt) := f_X7_pinsFrom_2 a1 a2 (fun (e3 : Int32) (s4 : xSt) => some (e3, s4)) FU 0 σ
def f_X7_readChannel (σ : xSt) : Option (Int32 × xSt) := gb 0 (vb (up2 σ 0 17 0) (fun s1 => bnd (f_X7_pinsFrom 0 8 s1) (fun r2 s3 => vb (up2 s3 0 16 r2) (fun s4 => jn (fun (v18 : Unit) (s19 : xSt) => some (s19.1 0 16, s19)) (fun j20 => if (s4.1 0 16) < 2 then (j20 () s4) else (if (s4.1 0 16) = (s4.1 0 14) then (j20 () s4) else (gi (s4.1 0 16) 20 (if (s4.1 9 (s4.1 0 16).toNatClampNeg) = 47 then (bnd (f_X7_pinsFrom ((s4.1 0 16) + 1) (s4.1 0 16) s4) (fun r21 s22 => vb (((s22.1 0 16) + 1) + r21) (fun x23 => jn (fun (v27 : Int32) (s28 : xSt) => gb v27 (vb (up2 s28 0 17 v27) (fun s30 => some (x23, s30)))) (fun j29 => jn (fun (v31 : Unit) (s32 : xSt) => j29 0 s32) (fun j33 => if r21 = (s22.1 0 16) then (if x23 = (s22.1 0 14) then (j29 1 s22) else (j33 () s22)) else (j33 () s22)))))) else (j20 () s4)))))))))
def f_X7_sayingAt (a0 : Int32) (a1 : Int32) (σ : xSt) : Option (Int32 × xSt) := if a0 = 0 then (jn (fun (v1 : Int32) (s2 : xSt) => some (v1, s2)) (fun j3 => if a1 = 0 then (j3 112 σ) else (if a1 = 1 then (j3 97 σ) else (if a1 = 2 then (j3 99 σ) else (if a1 = 3 then (j3 107 σ) else (j3 0 σ)))))) else (if a0 = 1 then (jn (fun (v5 : Int32) (s6 : xSt) => some (v5, s6)) (fun j7 => if a1 = 0 then (j7 98 σ) else (if a1 = 1 then (j7 101 σ) else (if a1 = 2 then (j7 115 σ) else (if a1 = 3 then (j7 116 σ) else (j7 0 σ)))))) else (if a0 = 2 then (jn (fun (v9 : Int32) (s10 : xSt) => some (v9, s10)) (fun j11 => if a1 = 0 then (j11 99 σ) else (if a1 = 1 then (j11 108 σ) else (if a1 = 2 then (j11 101 σ) else (if a1 = 3 then (j11 97 σ) else (if a1 = 4 then (j11 114 σ) else (j11 0 σ))))))) else (if a0 = 3 then (jn (fun (v13 : Int32) (s14 : xSt) => some (v13, s14)) (fun j15 => if a1 = 0 then (j15 99 σ) else (if a1 = 1 then (j15 117 σ) else (if a1 = 2 then (j15 116 σ) else (if a1 = 3 then (j15 32 σ) else (if a1 = 4 then (j15 1 σ) else (j15 0 σ))))))) else (if a0 = 4 then (jn (fun (v17 : Int32) (s18 : xSt) => some (v17, s18)) (fun j19 => if a1 = 0 then (j19 119 σ) else (if a1 = 1 then (j19 104 σ) else (if a1 = 2 then (j19 111 σ) else (if a1 = 3 then (j19 108 σ) else (if a1 = 4 then (j19 101 σ) else (if a1 = 5 then (j19 32 σ) else (if a1 = 6 then (j19 1 σ) else (j19 0 σ))))))))) else (jn (fun (v21 : Int32) (s22 : xSt) => some (v21, s22)) (fun j23 => if a1 = 0 then (j23 116 σ) else (if a1 = 1 then (j23 117 σ) else (if a1 = 2 then (j23 114 σ) else (if a1 = 3 then (j23 110 σ) else (if a1 = 4 then (j23 32 σ) else (if a1 = 5 then (j23 2 σ) else (j23 0 σ))))))))))))
def f_X7_isAs (a0 : Int32) (a1 : Int32) (σ : xSt) : Option (Int32 × xSt) := if a0 = 1 then (bnd (f_X7_within a1 97 102 σ) (fun r14 s15 => gb r14 (some (r14, s15)))) else (jn (fun (v6 : Int32) (s7 : xSt) => gb v6 (some (v6, s7))) (fun j8 => if a0 = 2 then (bnd (f_X7_within a1 48 57 σ) (fun r12 s13 => j8 r12 s13)) else (jn (fun (v9 : Unit) (s10 : xSt) => j8 0 s10) (fun j11 => if a0 = 0 then (j11 () σ) else (if a0 = a1 then (j8 1 σ) else (j11 () σ))))))
def f_X7_likeSaying_2 (w1 : Int32) (k : Int32 → xSt → Option (Int32 × xSt)) : Nat → Int32 → xSt → Option (Int32 × xSt)
  | 0, _, _ => none
  | n + 1, w2, σ => if (σ.1 0 14) ≤ w2 then (k w2 σ) else (bnd (f_X7_sayingAt w1 w2 σ) (fun r1 s2 => gi w2 20 (bnd (f_X7_isAs r1 (s2.1 9 w2.toNatClampNeg) s2) (fun r3 s4 => if r3 = 0 then (k w2 s4) else (f_X7_likeSaying_2 w1 k n (w2 + 1) s4)))))
def f_X7_likeSaying (a1 : Int32) (σ : xSt) : Option (Int32 × xSt) := f_X7_likeSaying_2 a1 (fun (e5 : Int32) (s6 : xSt) => some (e5, s6)) FU 0 σ
def f_X7_readSaying_4 (k : Int32 → xSt → Option (Int32 × xSt)) : Nat → Int32 → Int32 → xSt → Option (Int32 × xSt)
  | 0, _, _, _ => none
  | n + 1, w1, w2, σ => if 6 ≤ w2 then (k w1 σ) else (bnd (f_X7_likeSaying w2 σ) (fun r1 s2 => jn (fun (v3 : Int32) (s4 : xSt) => f_X7_readSaying_4 k n v3 (w2 + 1) s4) (fun j5 => if r1 ≤ w1 then (j5 w1 s2) else (j5 r1 s2))))
def f_X7_readSaying (σ : xSt) : Option (Int32 × xSt) := f_X7_readSaying_4 (fun (e6 : Int32) (s7 : xSt) => some (e6, s7)) FU 0 0 σ
def f_X7_sayingNow_2 (k : xSt → Option (Int32 × xSt)) : Nat → Int32 → xSt → Option (Int32 × xSt)
  | 0, _, _ => none
  | n + 1, w1, σ => if 6 ≤ w1 then (k  σ) else (bnd (f_X7_likeSaying w1 σ) (fun r1 s2 => jn (fun (v5 : Unit) (s6 : xSt) => f_X7_sayingNow_2 k n (w1 + 1) s6) (fun j7 => if r1 = (s2.1 0 14) then (bnd (f_X7_sayingAt w1 (s2.1 0 14) s2) (fun r8 s9 => if r8 = 0 then (some (w1, s9)) else (j7 () s9))) else (j7 () s2))))
def f_X7_sayingNow (σ : xSt) : Option (Int32 × xSt) := f_X7_sayingNow_2 (fun (s10 : xSt) => some ((-1), s10)) FU 0 σ
def f_X7_fault (a1 : Int32) (σ : xSt) : Option (Int32 × xSt) := bnd (f_X7_within a1 0 1 σ) (fun r1 s2 => jn (fun (v7 : Int32) (s8 : xSt) => some (v7, s8)) (fun j9 => if r1 = 0 then (j9 (-102) s2) else (if a1 = 0 then (bnd (f_X7_readChannel  s2) (fun r12 s13 => j9 r12 s13)) else (bnd (f_X7_readSaying  s2) (fun r10 s11 => j9 r10 s11)))))
def f_X7_netBy (a0 : Int32) (σ : xSt) : Option (Int32 × xSt) := jn (fun (v1 : Int32) (s2 : xSt) => some (v1, s2)) (fun j3 => if a0 = 46 then (j3 (-1) σ) else (j3 (a0 - 97) σ))
def f_X7_top (a1 : Int32) (σ : xSt) : Option (Int32 × xSt) := gi (2 * a1) 16 (some (σ.1 1 (2 * a1).toNatClampNeg, σ))
def f_X7_bottom (a1 : Int32) (σ : xSt) : Option (Int32 × xSt) := gi ((2 * a1) + 1) 16 (some (σ.1 1 ((2 * a1) + 1).toNatClampNeg, σ))
def f_X7_hasPin (a1 : Int32) (a2 : Int32) (σ : xSt) : Option (Int32 × xSt) := bnd (f_X7_top a2 σ) (fun r1 s2 => jn (fun (v10 : Int32) (s11 : xSt) => gb v10 (some (v10, s11))) (fun j12 => jn (fun (v15 : Unit) (s16 : xSt) => j12 1 s16) (fun j17 => if r1 = a1 then (j17 () s2) else (bnd (f_X7_bottom a2 s2) (fun r18 s19 => if r18 = a1 then (j17 () s19) else (j12 0 s19))))))
def f_X7_addSegment (a1 : Int32) (a2 : Int32) (a3 : Int32) (σ : xSt) : Option (Unit × xSt) := gi (σ.1 0 4) 14 (vb (up2 σ 2 (σ.1 0 4).toNatClampNeg a1) (fun s1 => gi (s1.1 0 4) 14 (vb (up2 s1 3 (s1.1 0 4).toNatClampNeg a2) (fun s2 => gi (s2.1 0 4) 14 (vb (up2 s2 4 (s2.1 0 4).toNatClampNeg a3) (fun s3 => vb (up2 s3 0 4 ((s3.1 0 4) + 1)) (fun s4 => some ((), s4))))))))
def f_X7_layNet_8 (w1 : Int32) (w2 : Int32) (k : Int32 → Int32 → xSt → Option (Unit × xSt)) : Nat → Int32 → Int32 → Int32 → xSt → Option (Unit × xSt)
  | 0, _, _, _, _ => none
  | n + 1, w3, w4, w5, σ => if (σ.1 0 0) ≤ w5 then (k w3 w4 σ) else (bnd (f_X7_hasPin w1 w5 σ) (fun r1 s2 => jn (fun (v13 : Int32 × Int32) (s14 : xSt) => f_X7_layNet_8 w1 w2 k n v13.1 v13.2 (w5 + 1) s14) (fun j15 => if r1 = 0 then (j15 (w3, w4) s2) else (jn (fun (v18 : Unit) (s19 : xSt) => jn (fun (v21 : Int32) (s22 : xSt) => j15 (v21, w5) s22) (fun j23 => if w3 = (-1) then (j23 w5 s19) else (j23 w3 s19))) (fun j20 => if w2 = 0 then (j20 () s2) else (if w4 = (-1) then (j20 () s2) else (bnd (f_X7_addSegment w1 w4 w5 s2) (fun r24 s25 => j20 () s25))))))))
def f_X7_layNet (a1 : Int32) (a2 : Int32) (σ : xSt) : Option (Unit × xSt) := f_X7_layNet_8 a1 a2 (fun (e26 : Int32) (e27 : Int32) (s28 : xSt) => jn (fun (v31 : Unit) (s32 : xSt) => some ((), s32)) (fun j33 => if a2 = 0 then (if e27 ≤ e26 then (j33 () s28) else (bnd (f_X7_addSegment a1 e26 e27 s28) (fun r34 s35 => j33 () s35))) else (j33 () s28))) FU (-1) (-1) 0 σ
def f_X7_isWithin (a1 : Int32) (a2 : Int32) (σ : xSt) : Option (Int32 × xSt) := gi a1 14 (gi a1 14 (bnd (f_X7_within a2 (σ.1 3 a1.toNatClampNeg) (σ.1 4 a1.toNatClampNeg) σ) (fun r1 s2 => gb r1 (some (r1, s2)))))
def f_X7_touches (a1 : Int32) (a2 : Int32) (σ : xSt) : Option (Int32 × xSt) := bnd (f_X7_isWithin a1 a2 σ) (fun r1 s2 => jn (fun (v10 : Int32) (s11 : xSt) => gb v10 (some (v10, s11))) (fun j12 => jn (fun (v15 : Unit) (s16 : xSt) => j12 0 s16) (fun j17 => if r1 = 0 then (j17 () s2) else (gi a1 14 (bnd (f_X7_hasPin (s2.1 2 a1.toNatClampNeg) a2 s2) (fun r18 s19 => if r18 = 0 then (j17 () s19) else (j12 1 s19)))))))
def f_X7_isAbove_5 (w1 : Int32) (w2 : Int32) (k : Int32 → xSt → Option (Int32 × xSt)) : Nat → Int32 → Int32 → xSt → Option (Int32 × xSt)
  | 0, _, _, _ => none
  | n + 1, w3, w4, σ => if (σ.1 0 0) ≤ w4 then (k w3 σ) else (bnd (f_X7_top w4 σ) (fun r1 s2 => gi w1 14 (jn (fun (v10 : Int32) (s11 : xSt) => jn (fun (v38 : Int32) (s39 : xSt) => f_X7_isAbove_5 w1 w2 k n v38 (w4 + 1) s39) (fun j40 => jn (fun (v52 : Unit) (s53 : xSt) => j40 1 s53) (fun j54 => if w3 = 0 then (jn (fun (v59 : Unit) (s60 : xSt) => j40 0 s60) (fun j61 => if v10 = 0 then (j61 () s11) else (bnd (f_X7_touches w1 w4 s11) (fun r62 s63 => if r62 = 0 then (j61 () s63) else (bnd (f_X7_touches w2 w4 s63) (fun r64 s65 => if r64 = 0 then (j61 () s65) else (j54 () s65))))))) else (j54 () s11)))) (fun j12 => jn (fun (v68 : Unit) (s69 : xSt) => j12 0 s69) (fun j70 => if r1 = (s2.1 2 w1.toNatClampNeg) then (bnd (f_X7_bottom w4 s2) (fun r71 s72 => gi w2 14 (if r71 = (s72.1 2 w2.toNatClampNeg) then (j12 1 s72) else (j70 () s72)))) else (j70 () s2))))))
def f_X7_isAbove (a1 : Int32) (a2 : Int32) (σ : xSt) : Option (Int32 × xSt) := f_X7_isAbove_5 a1 a2 (fun (e73 : Int32) (s74 : xSt) => jn (fun (v78 : Int32) (s79 : xSt) => gb v78 (some (v78, s79))) (fun j80 => jn (fun (v81 : Unit) (s82 : xSt) => j80 0 s82) (fun j83 => if e73 = 0 then (j83 () s74) else (gi a1 14 (gi a2 14 (if (s74.1 2 a1.toNatClampNeg) = (s74.1 2 a2.toNatClampNeg) then (j83 () s74) else (j80 1 s74))))))) FU 0 0 σ
def f_X7_laySegments_7 (w1 : Int32) (k : xSt → Option (Unit × xSt)) : Nat → Int32 → xSt → Option (Unit × xSt)
  | 0, _, _ => none
  | n + 1, w2, σ => if 6 ≤ w2 then (k  σ) else (bnd (f_X7_isBit w1 w2 σ) (fun r2 s3 => bnd (f_X7_layNet w2 r2 s3) (fun r4 s5 => f_X7_laySegments_7 w1 k n (w2 + 1) s5)))
def f_X7_laySegments_48 (w2 : Int32) (k : xSt → Option (Unit × xSt)) : Nat → Int32 → xSt → Option (Unit × xSt)
  | 0, _, _ => none
  | n + 1, w3, σ => if (σ.1 0 4) ≤ w3 then (k  σ) else (gi w2 14 (bnd (f_X7_isAbove w2 w3 σ) (fun r8 s9 => jn (fun (v10 : Int32) (s11 : xSt) => gi w2 14 (vb (up2 s11 6 w2.toNatClampNeg ((σ.1 6 w2.toNatClampNeg) ||| v10)) (fun s13 => f_X7_laySegments_48 w2 k n (w3 + 1) s13))) (fun j12 => if r8 = 0 then (j12 0 s9) else (j12 (1 <<< (w3 &&& 31)) s9)))))
def f_X7_laySegments_31 (k : xSt → Option (Unit × xSt)) : Nat → Int32 → xSt → Option (Unit × xSt)
  | 0, _, _ => none
  | n + 1, w2, σ => if (σ.1 0 4) ≤ w2 then (k  σ) else (gi w2 14 (vb (up2 σ 6 w2.toNatClampNeg 0) (fun s7 => f_X7_laySegments_48 w2 (fun (s14 : xSt) => gi w2 14 (gi w2 14 (vb (up2 s14 7 w2.toNatClampNeg (s14.1 6 w2.toNatClampNeg)) (fun s15 => f_X7_laySegments_31 k n (w2 + 1) s15)))) FU 0 s7)))
def f_X7_laySegments_117 (w2 : Int32) (k : xSt → Option (Unit × xSt)) : Nat → Int32 → xSt → Option (Unit × xSt)
  | 0, _, _ => none
  | n + 1, w3, σ => if (σ.1 0 4) ≤ w3 then (k  σ) else (gi w3 14 (gi w3 14 (bnd (f_X7_isBit (σ.1 7 w3.toNatClampNeg) w2 σ) (fun r17 s18 => jn (fun (v19 : Int32) (s20 : xSt) => gi w3 14 (vb (up2 s20 7 w3.toNatClampNeg ((σ.1 7 w3.toNatClampNeg) ||| v19)) (fun s22 => f_X7_laySegments_117 w2 k n (w3 + 1) s22))) (fun j21 => if r17 = 0 then (j21 0 s18) else (gi w2 14 (j21 (s18.1 7 w2.toNatClampNeg) s18)))))))
def f_X7_laySegments_107 (k : xSt → Option (Unit × xSt)) : Nat → Int32 → xSt → Option (Unit × xSt)
  | 0, _, _ => none
  | n + 1, w2, σ => if (σ.1 0 4) ≤ w2 then (k  σ) else (f_X7_laySegments_117 w2 (fun (s23 : xSt) => f_X7_laySegments_107 k n (w2 + 1) s23) FU 0 σ)
def f_X7_laySegments (a1 : Int32) (σ : xSt) : Option (Unit × xSt) := vb (up2 σ 0 4 0) (fun s1 => f_X7_laySegments_7 a1 (fun (s6 : xSt) => f_X7_laySegments_31 (fun (s16 : xSt) => f_X7_laySegments_107 (fun (s24 : xSt) => some ((), s24)) FU 0 s16) FU 0 s6) FU 0 s1)
def f_X7_isRing_4 (k : Int32 → xSt → Option (Int32 × xSt)) : Nat → Int32 → Int32 → xSt → Option (Int32 × xSt)
  | 0, _, _, _ => none
  | n + 1, w1, w2, σ => if (σ.1 0 4) ≤ w2 then (k w1 σ) else (jn (fun (v8 : Int32) (s9 : xSt) => f_X7_isRing_4 k n v8 (w2 + 1) s9) (fun j10 => jn (fun (v13 : Unit) (s14 : xSt) => j10 1 s14) (fun j15 => if w1 = 0 then (gi w2 14 (bnd (f_X7_isBit (σ.1 7 w2.toNatClampNeg) w2 σ) (fun r16 s17 => if r16 = 0 then (j10 0 s17) else (j15 () s17)))) else (j15 () σ))))
def f_X7_isRing (σ : xSt) : Option (Int32 × xSt) := f_X7_isRing_4 (fun (e18 : Int32) (s19 : xSt) => gb e18 (some (e18, s19))) FU 0 0 σ
def f_X7_layBack_26 (w1 : Int32) (w2 : Int32) (w3 : Int32) (k : xSt → Option (Int32 × xSt)) : Nat → Int32 → xSt → Option (Int32 × xSt)
  | 0, _, _ => none
  | n + 1, w4, σ => if (σ.1 0 4) ≤ w4 then (k  σ) else (gi w4 14 (gi (w3 - 1) 15 (jn (fun (v12 : Int32) (s13 : xSt) => gi w3 15 (jn (fun (v15 : Int32) (s16 : xSt) => gi w3 15 (vb (up2 s16 10 w3.toNatClampNeg ((s13.1 10 w3.toNatClampNeg) ||| v15)) (fun s18 => f_X7_layBack_26 w1 w2 w3 k n (w4 + 1) s18))) (fun j17 => if v12 = 0 then (j17 0 s13) else (j17 (1 <<< (w4 &&& 31)) s13)))) (fun j14 => jn (fun (v22 : Unit) (s23 : xSt) => j14 0 s23) (fun j24 => if ((σ.1 6 w4.toNatClampNeg) &&& (σ.1 10 (w3 - 1).toNatClampNeg)) = 0 then (j24 () σ) else (jn (fun (v25 : Unit) (s26 : xSt) => j14 1 s26) (fun j27 => if w1 < w4 then (j27 () σ) else (if w3 = w2 then (j27 () σ) else (j24 () σ)))))))))
def f_X7_layBack_11 (w1 : Int32) (w2 : Int32) (k : xSt → Option (Int32 × xSt)) : Nat → Int32 → xSt → Option (Int32 × xSt)
  | 0, _, _ => none
  | n + 1, w3, σ => if w2 < w3 then (k  σ) else (gi w3 15 (vb (up2 σ 10 w3.toNatClampNeg 0) (fun s2 => f_X7_layBack_26 w1 w2 w3 (fun (s28 : xSt) => f_X7_layBack_11 w1 w2 k n (w3 + 1) s28) FU w1 s2)))
def f_X7_layBack (a1 : Int32) (a2 : Int32) (σ : xSt) : Option (Int32 × xSt) := gi 0 15 (vb (up2 σ 10 (0 : Int32).toNatClampNeg (1 <<< (a1 &&& 31))) (fun s1 => f_X7_layBack_11 a1 a2 (fun (s29 : xSt) => gi a2 15 (bnd (f_X7_isBit (s29.1 10 a2.toNatClampNeg) a1 s29) (fun r30 s31 => gb r30 (some (r30, s31))))) FU 1 s1))
def f_X7_findRing_33 (w1 : Int32) (k : xSt → Option (Int32 × xSt)) : Nat → Int32 → xSt → Option (Int32 × xSt)
  | 0, _, _ => none
  | n + 1, w3, σ => if w1 ≤ w3 then (k  σ) else (gi (w3 - 1) 14 (gi (σ.1 8 (w3 - 1).toNatClampNeg) 14 (gi (w1 - w3) 15 (bnd (f_X7_leastOf ((σ.1 6 (σ.1 8 (w3 - 1).toNatClampNeg).toNatClampNeg) &&& (σ.1 10 (w1 - w3).toNatClampNeg)) σ) (fun r5 s6 => gi w3 14 (vb (up2 s6 8 w3.toNatClampNeg r5) (fun s7 => f_X7_findRing_33 w1 k n (w3 + 1) s7)))))))
def f_X7_findRing_2 (w1 : Int32) (k : xSt → Option (Int32 × xSt)) : Nat → Int32 → xSt → Option (Int32 × xSt)
  | 0, _, _ => none
  | n + 1, w2, σ => if (σ.1 0 4) ≤ w2 then (k  σ) else (bnd (f_X7_layBack w2 w1 σ) (fun r1 s2 => if r1 = 0 then (f_X7_findRing_2 w1 k n (w2 + 1) s2) else (vb (up2 s2 0 11 w1) (fun s3 => gi 0 14 (vb (up2 s3 8 (0 : Int32).toNatClampNeg w2) (fun s4 => f_X7_findRing_33 w1 (fun (s8 : xSt) => gb 1 (some (1, s8))) FU 1 s4))))))
def f_X7_findRing (a1 : Int32) (σ : xSt) : Option (Int32 × xSt) := f_X7_findRing_2 a1 (fun (s9 : xSt) => gb 0 (some (0, s9))) FU 0 σ
def f_X7_layRing_7 (k : xSt → Option (Unit × xSt)) : Nat → Int32 → xSt → Option (Unit × xSt)
  | 0, _, _ => none
  | n + 1, w1, σ => bnd (f_X7_isRing  σ) (fun r2 s3 => if r2 = 0 then (k  s3) else (if (s3.1 0 4) < w1 then (k  s3) else (bnd (f_X7_findRing w1 s3) (fun r4 s5 => if r4 = 0 then (f_X7_layRing_7 k n (w1 + 1) s5) else (k  s5)))))
def f_X7_layRing (σ : xSt) : Option (Unit × xSt) := vb (up2 σ 0 11 0) (fun s1 => f_X7_layRing_7 (fun (s6 : xSt) => some ((), s6)) FU 2 s1)
def f_X7_layNow (σ : xSt) : Option (Unit × xSt) := bnd (f_X7_laySegments (σ.1 0 2) σ) (fun r1 s2 => bnd (f_X7_layRing  s2) (fun r3 s4 => some ((), s4)))
def f_X7_layNew_6 (k : xSt → Option (Unit × xSt)) : Nat → Int32 → xSt → Option (Unit × xSt)
  | 0, _, _ => none
  | n + 1, w1, σ => if 14 ≤ w1 then (k  σ) else (gi w1 14 (vb (up2 σ 5 w1.toNatClampNeg (-1)) (fun s3 => f_X7_layNew_6 k n (w1 + 1) s3)))
def f_X7_layNew (σ : xSt) : Option (Unit × xSt) := bnd (f_X7_layNow  σ) (fun r1 s2 => f_X7_layNew_6 (fun (s4 : xSt) => some ((), s4)) FU 0 s2)
def f_X7_channel_25 (k : xSt → Option (Int32 × xSt)) : Nat → Int32 → xSt → Option (Int32 × xSt)
  | 0, _, _ => none
  | n + 1, w1, σ => if (σ.1 0 0) ≤ w1 then (k  σ) else (gi w1 20 (bnd (f_X7_netBy (σ.1 9 w1.toNatClampNeg) σ) (fun r4 s5 => gi (2 * w1) 16 (vb (up2 s5 1 (2 * w1).toNatClampNeg r4) (fun s6 => gi (((s6.1 0 0) + 1) + w1) 20 (bnd (f_X7_netBy (s6.1 9 (((s6.1 0 0) + 1) + w1).toNatClampNeg) s6) (fun r7 s8 => gi ((2 * w1) + 1) 16 (vb (up2 s8 1 ((2 * w1) + 1).toNatClampNeg r7) (fun s9 => f_X7_channel_25 k n (w1 + 1) s9)))))))))
def f_X7_channel (σ : xSt) : Option (Int32 × xSt) := bnd (f_X7_readChannel  σ) (fun r1 s2 => if (s2.1 0 17) = 0 then (some ((-103), s2)) else (vb (up2 s2 0 0 (s2.1 0 16)) (fun s3 => f_X7_channel_25 (fun (s10 : xSt) => vb (up2 s10 0 2 0) (fun s11 => vb (up2 s11 0 3 ((s11.1 0 3) + 1)) (fun s12 => vb (up2 s12 0 14 0) (fun s13 => bnd (f_X7_layNew  s13) (fun r14 s15 => some (s15.1 0 0, s15)))))) FU 0 s3)))
def f_X7_isThere (σ : xSt) : Option (Int32 × xSt) := jn (fun (v1 : Int32) (s2 : xSt) => gb v1 (some (v1, s2))) (fun j3 => if (σ.1 0 0) ≤ 0 then (j3 0 σ) else (j3 1 σ))
def f_X7_withTrack_4 (k : Int32 → xSt → Option (Int32 × xSt)) : Nat → Int32 → Int32 → xSt → Option (Int32 × xSt)
  | 0, _, _, _ => none
  | n + 1, w1, w2, σ => if (σ.1 0 4) ≤ w2 then (k w1 σ) else (gi w2 14 (jn (fun (v1 : Int32) (s2 : xSt) => vb (w1 + v1) (fun x4 => f_X7_withTrack_4 k n x4 (w2 + 1) s2)) (fun j3 => if (σ.1 5 w2.toNatClampNeg) = (-1) then (j3 0 σ) else (j3 1 σ))))
def f_X7_withTrack (σ : xSt) : Option (Int32 × xSt) := f_X7_withTrack_4 (fun (e5 : Int32) (s6 : xSt) => some (e5, s6)) FU 0 0 σ
def f_X7_clearNow_7 (k : xSt → Option (Int32 × xSt)) : Nat → Int32 → xSt → Option (Int32 × xSt)
  | 0, _, _ => none
  | n + 1, w2, σ => if 14 ≤ w2 then (k  σ) else (gi w2 14 (vb (up2 σ 5 w2.toNatClampNeg (-1)) (fun s3 => f_X7_clearNow_7 k n (w2 + 1) s3)))
def f_X7_clearNow (σ : xSt) : Option (Int32 × xSt) := bnd (f_X7_withTrack  σ) (fun r1 s2 => f_X7_clearNow_7 (fun (s4 : xSt) => some (r1, s4)) FU 0 s2)
def f_X7_isMet (a1 : Int32) (a2 : Int32) (σ : xSt) : Option (Int32 × xSt) := gi a1 14 (gi a2 14 (jn (fun (v4 : Int32) (s5 : xSt) => gb v4 (some (v4, s5))) (fun j6 => jn (fun (v7 : Unit) (s8 : xSt) => j6 0 s8) (fun j9 => if (σ.1 2 a1.toNatClampNeg) = (σ.1 2 a2.toNatClampNeg) then (j9 () σ) else (gi a1 14 (gi a2 14 (if (σ.1 4 a2.toNatClampNeg) < (σ.1 3 a1.toNatClampNeg) then (j9 () σ) else (gi a2 14 (gi a1 14 (if (σ.1 4 a1.toNatClampNeg) < (σ.1 3 a2.toNatClampNeg) then (j9 () σ) else (j6 1 σ)))))))))))
def f_X7_mayCome_19 (w1 : Int32) (w2 : Int32) (k : Int32 → xSt → Option (Int32 × xSt)) : Nat → Int32 → Int32 → xSt → Option (Int32 × xSt)
  | 0, _, _, _ => none
  | n + 1, w3, w4, σ => if (σ.1 0 4) ≤ w4 then (k w3 σ) else (jn (fun (v21 : Int32) (s22 : xSt) => jn (fun (v37 : Int32) (s38 : xSt) => f_X7_mayCome_19 w1 w2 k n v37 (w4 + 1) s38) (fun j39 => jn (fun (v45 : Unit) (s46 : xSt) => j39 0 s46) (fun j47 => if v21 = 0 then (j47 () s22) else (gi w4 14 (bnd (f_X7_isBit (s22.1 6 w4.toNatClampNeg) w1 s22) (fun r48 s49 => jn (fun (v50 : Unit) (s51 : xSt) => j39 1 s51) (fun j52 => if r48 = 0 then (j52 () s49) else (gi w4 14 (if (s49.1 5 w4.toNatClampNeg) = (-1) then (j47 () s49) else (gi w4 14 (if w2 ≤ (s49.1 5 w4.toNatClampNeg) then (j47 () s49) else (j52 () s49)))))))))))) (fun j23 => jn (fun (v60 : Unit) (s61 : xSt) => j23 0 s61) (fun j62 => if w3 = 0 then (j62 () σ) else (gi w4 14 (jn (fun (v65 : Unit) (s66 : xSt) => j23 1 s66) (fun j67 => if (σ.1 5 w4.toNatClampNeg) = w2 then (bnd (f_X7_isMet w4 w1 σ) (fun r68 s69 => if r68 = 0 then (j67 () s69) else (j62 () s69))) else (j67 () σ)))))))
def f_X7_mayCome (a1 : Int32) (a2 : Int32) (σ : xSt) : Option (Int32 × xSt) := gi a1 14 (jn (fun (v1 : Int32) (s2 : xSt) => f_X7_mayCome_19 a1 a2 (fun (e70 : Int32) (s71 : xSt) => gb e70 (some (e70, s71))) FU v1 0 s2) (fun j3 => if (σ.1 5 a1.toNatClampNeg) = (-1) then (j3 1 σ) else (j3 0 σ)))
def f_X7_nextFor_4 (w1 : Int32) (k : Int32 → xSt → Option (Int32 × xSt)) : Nat → Int32 → Int32 → xSt → Option (Int32 × xSt)
  | 0, _, _, _ => none
  | n + 1, w2, w3, σ => if (σ.1 0 4) ≤ w3 then (k w2 σ) else (jn (fun (v4 : Int32) (s5 : xSt) => bnd (f_X7_mayCome w3 w1 s5) (fun r7 s8 => jn (fun (v12 : Int32) (s13 : xSt) => f_X7_nextFor_4 w1 k n v12 (w3 + 1) s13) (fun j14 => jn (fun (v15 : Unit) (s16 : xSt) => j14 w2 s16) (fun j17 => if r7 = 0 then (j17 () s8) else (if v4 = 0 then (j17 () s8) else (j14 w3 s8)))))) (fun j6 => jn (fun (v18 : Unit) (s19 : xSt) => j6 1 s19) (fun j20 => if w2 = (-1) then (j20 () σ) else (gi w3 14 (gi w2 14 (if (σ.1 3 w2.toNatClampNeg) ≤ (σ.1 3 w3.toNatClampNeg) then (j6 0 σ) else (j20 () σ)))))))
def f_X7_nextFor (a1 : Int32) (σ : xSt) : Option (Int32 × xSt) := f_X7_nextFor_4 a1 (fun (e21 : Int32) (s22 : xSt) => some (e21, s22)) FU (-1) 0 σ
def f_X7_depth_4 (k : Int32 → xSt → Option (Int32 × xSt)) : Nat → Int32 → Int32 → xSt → Option (Int32 × xSt)
  | 0, _, _, _ => none
  | n + 1, w1, w2, σ => if (σ.1 0 4) ≤ w2 then (k w1 σ) else (gi w2 14 (jn (fun (v1 : Int32) (s2 : xSt) => f_X7_depth_4 k n v1 (w2 + 1) s2) (fun j3 => if (σ.1 5 w2.toNatClampNeg) ≤ w1 then (j3 w1 σ) else (gi w2 14 (j3 (σ.1 5 w2.toNatClampNeg) σ)))))
def f_X7_depth (σ : xSt) : Option (Int32 × xSt) := f_X7_depth_4 (fun (e4 : Int32) (s5 : xSt) => some (e4 + 1, s5)) FU (-1) 0 σ
def f_X7_pack_36 (w1 : Int32) (k : xSt → Option (Int32 × xSt)) : Nat → Int32 → xSt → Option (Int32 × xSt)
  | 0, _, _ => none
  | n + 1, w2, σ => if w2 = (-1) then (k  σ) else (gi w2 14 (vb (up2 σ 5 w2.toNatClampNeg w1) (fun s7 => bnd (f_X7_nextFor w1 s7) (fun r8 s9 => f_X7_pack_36 w1 k n r8 s9))))
def f_X7_pack_24 (k : xSt → Option (Int32 × xSt)) : Nat → Int32 → xSt → Option (Int32 × xSt)
  | 0, _, _ => none
  | n + 1, w1, σ => if 14 ≤ w1 then (k  σ) else (bnd (f_X7_nextFor w1 σ) (fun r5 s6 => f_X7_pack_36 w1 (fun (s10 : xSt) => f_X7_pack_24 k n (w1 + 1) s10) FU r5 s6))
def f_X7_pack (σ : xSt) : Option (Int32 × xSt) := bnd (f_X7_isThere  σ) (fun r1 s2 => jn (fun (v14 : Unit) (s15 : xSt) => some ((-103), s15)) (fun j16 => if r1 = 0 then (j16 () s2) else (if (s2.1 0 11) ≤ 0 then (bnd (f_X7_clearNow  s2) (fun r17 s18 => f_X7_pack_24 (fun (s25 : xSt) => bnd (f_X7_depth  s25) (fun r26 s27 => some (r26, s27))) FU 0 s18)) else (j16 () s2))))
def f_X7_isFine (a1 : Int32) (a2 : Int32) (σ : xSt) : Option (Int32 × xSt) := gi a1 14 (gi a2 14 (jn (fun (v8 : Int32) (s9 : xSt) => jn (fun (v24 : Int32) (s25 : xSt) => jn (fun (v40 : Int32) (s41 : xSt) => gb v40 (some (v40, s41))) (fun j42 => jn (fun (v48 : Unit) (s49 : xSt) => j42 0 s49) (fun j50 => if v24 = 0 then (j50 () s25) else (gi a2 14 (bnd (f_X7_isBit (s25.1 6 a2.toNatClampNeg) a1 s25) (fun r51 s52 => jn (fun (v53 : Unit) (s54 : xSt) => j42 1 s54) (fun j55 => if r51 = 0 then (j55 () s52) else (gi a2 14 (gi a1 14 (if (s52.1 5 a1.toNatClampNeg) ≤ (s52.1 5 a2.toNatClampNeg) then (j50 () s52) else (j55 () s52))))))))))) (fun j26 => jn (fun (v61 : Unit) (s62 : xSt) => j26 0 s62) (fun j63 => if v8 = 0 then (j63 () s9) else (gi a1 14 (bnd (f_X7_isBit (s9.1 6 a1.toNatClampNeg) a2 s9) (fun r64 s65 => jn (fun (v66 : Unit) (s67 : xSt) => j26 1 s67) (fun j68 => if r64 = 0 then (j68 () s65) else (gi a1 14 (gi a2 14 (if (s65.1 5 a2.toNatClampNeg) ≤ (s65.1 5 a1.toNatClampNeg) then (j63 () s65) else (j68 () s65))))))))))) (fun j10 => jn (fun (v71 : Unit) (s72 : xSt) => j10 1 s72) (fun j73 => if (σ.1 5 a1.toNatClampNeg) = (σ.1 5 a2.toNatClampNeg) then (bnd (f_X7_isMet a1 a2 σ) (fun r74 s75 => if r74 = 0 then (j73 () s75) else (j10 0 s75))) else (j73 () σ)))))
def f_X7_goesOn_4 (w1 : Int32) (k : Int32 → xSt → Option (Int32 × xSt)) : Nat → Int32 → Int32 → xSt → Option (Int32 × xSt)
  | 0, _, _, _ => none
  | n + 1, w2, w3, σ => if w1 ≤ w3 then (k w2 σ) else (jn (fun (v8 : Int32) (s9 : xSt) => f_X7_goesOn_4 w1 k n v8 (w3 + 1) s9) (fun j10 => jn (fun (v13 : Unit) (s14 : xSt) => j10 0 s14) (fun j15 => if w2 = 0 then (j15 () σ) else (bnd (f_X7_isFine w3 w1 σ) (fun r16 s17 => if r16 = 0 then (j15 () s17) else (j10 1 s17))))))
def f_X7_goesOn (a1 : Int32) (σ : xSt) : Option (Int32 × xSt) := f_X7_goesOn_4 a1 (fun (e18 : Int32) (s19 : xSt) => gb e18 (some (e18, s19))) FU 1 0 σ
def f_X7_findPlan_29 (w1 : Int32) (w2 : Int32) (k : xSt → Option (Int32 × xSt)) : Nat → xSt → Option (Int32 × xSt)
  | 0, _ => none
  | n + 1, σ => gi w2 14 (if w1 ≤ (σ.1 5 w2.toNatClampNeg) then (k  σ) else (bnd (f_X7_goesOn w2 σ) (fun r4 s5 => if r4 = 0 then (gi w2 14 (gi w2 14 (vb (up2 s5 5 w2.toNatClampNeg ((s5.1 5 w2.toNatClampNeg) + 1)) (fun s6 => f_X7_findPlan_29 w1 w2 k n  s6)))) else (k  s5))))
def f_X7_findPlan_7 (w1 : Int32) (k : Int32 → xSt → Option (Int32 × xSt)) : Nat → Int32 → xSt → Option (Int32 × xSt)
  | 0, _, _ => none
  | n + 1, w2, σ => if w2 < 0 then (k w2 σ) else (if (σ.1 0 4) ≤ w2 then (k w2 σ) else (gi w2 14 (gi w2 14 (vb (up2 σ 5 w2.toNatClampNeg ((σ.1 5 w2.toNatClampNeg) + 1)) (fun s3 => f_X7_findPlan_29 w1 w2 (fun (s7 : xSt) => gi w2 14 (if w1 ≤ (s7.1 5 w2.toNatClampNeg) then (gi w2 14 (vb (up2 s7 5 w2.toNatClampNeg (-1)) (fun s8 => f_X7_findPlan_7 w1 k n (w2 + (-1)) s8))) else (f_X7_findPlan_7 w1 k n (w2 + 1) s7))) FU  s3)))))
def f_X7_findPlan (a1 : Int32) (σ : xSt) : Option (Int32 × xSt) := bnd (f_X7_clearNow  σ) (fun r1 s2 => f_X7_findPlan_7 a1 (fun (e9 : Int32) (s10 : xSt) => jn (fun (v11 : Int32) (s12 : xSt) => gb v11 (some (v11, s12))) (fun j13 => if e9 = (s10.1 0 4) then (j13 1 s10) else (j13 0 s10))) FU 0 s2)
def f_X7_best_47 (k : Int32 → xSt → Option (Int32 × xSt)) : Nat → Int32 → xSt → Option (Int32 × xSt)
  | 0, _, _ => none
  | n + 1, w1, σ => bnd (f_X7_findPlan w1 σ) (fun r4 s5 => if r4 = 0 then (f_X7_best_47 k n (w1 + 1) s5) else (k w1 s5))
def f_X7_best (σ : xSt) : Option (Int32 × xSt) := bnd (f_X7_isThere  σ) (fun r1 s2 => jn (fun (v8 : Unit) (s9 : xSt) => some ((-103), s9)) (fun j10 => if r1 = 0 then (j10 () s2) else (if 0 < (s2.1 0 11) then (j10 () s2) else (if 8 < (s2.1 0 4) then (j10 () s2) else (if (s2.1 0 13) = 20 then (j10 () s2) else (vb (up2 s2 0 13 ((s2.1 0 13) + 1)) (fun s11 => f_X7_best_47 (fun (e14 : Int32) (s15 : xSt) => some (e14, s15)) FU 0 s11)))))))
def f_X7_clear (σ : xSt) : Option (Int32 × xSt) := bnd (f_X7_isThere  σ) (fun r1 s2 => jn (fun (v5 : Int32) (s6 : xSt) => some (v5, s6)) (fun j7 => if r1 = 0 then (j7 (-103) s2) else (bnd (f_X7_clearNow  s2) (fun r8 s9 => j7 r8 s9))))
def f_X7_cut (a1 : Int32) (a2 : Int32) (σ : xSt) : Option (Int32 × xSt) := bnd (f_X7_isThere  σ) (fun r1 s2 => jn (fun (v10 : Unit) (s11 : xSt) => some ((-101), s11)) (fun j12 => if r1 = 0 then (j12 () s2) else (bnd (f_X7_within a1 0 5 s2) (fun r13 s14 => if r13 = 0 then (j12 () s14) else (bnd (f_X7_isBit (s14.1 0 2) a1 s14) (fun r15 s16 => if r15 = a2 then (some ((-103), s16)) else (vb (up2 s16 0 2 ((s16.1 0 2) ^^^ (1 <<< (a1 &&& 31)))) (fun s17 => bnd (f_X7_layNew  s17) (fun r18 s19 => some (s19.1 0 4, s19))))))))))
def f_X7_isColumn (a1 : Int32) (σ : xSt) : Option (Int32 × xSt) := bnd (f_X7_within a1 0 ((σ.1 0 0) - 1) σ) (fun r1 s2 => gb r1 (some (r1, s2)))
def f_X7_turn (a1 : Int32) (σ : xSt) : Option (Int32 × xSt) := bnd (f_X7_isColumn a1 σ) (fun r1 s2 => if r1 = 0 then (some ((-101), s2)) else (bnd (f_X7_top a1 s2) (fun r3 s4 => bnd (f_X7_bottom a1 s4) (fun r5 s6 => gi (2 * a1) 16 (vb (up2 s6 1 (2 * a1).toNatClampNeg r5) (fun s7 => gi ((2 * a1) + 1) 16 (vb (up2 s7 1 ((2 * a1) + 1).toNatClampNeg r3) (fun s8 => bnd (f_X7_layNew  s8) (fun r9 s10 => bnd (f_X7_top a1 s10) (fun r11 s12 => some (r11, s12)))))))))))
def f_X7_saidNow (a1 : Int32) (σ : xSt) : Option (Int32 × xSt) := if a1 = 0 then (bnd (f_X7_pack  σ) (fun r1 s2 => some (r1, s2))) else (if a1 = 1 then (bnd (f_X7_best  σ) (fun r4 s5 => some (r4, s5))) else (if a1 = 2 then (bnd (f_X7_clear  σ) (fun r7 s8 => some (r7, s8))) else (if a1 = 3 then (gi 4 20 (bnd (f_X7_cut ((σ.1 9 (4 : Int32).toNatClampNeg) - 97) 1 σ) (fun r10 s11 => some (r10, s11)))) else (if a1 = 4 then (gi 6 20 (bnd (f_X7_cut ((σ.1 9 (6 : Int32).toNatClampNeg) - 97) 0 σ) (fun r13 s14 => some (r13, s14)))) else (gi 5 20 (bnd (f_X7_turn ((σ.1 9 (5 : Int32).toNatClampNeg) - 48) σ) (fun r16 s17 => some (r16, s17))))))))
def f_X7_say (σ : xSt) : Option (Int32 × xSt) := bnd (f_X7_sayingNow  σ) (fun r1 s2 => if r1 = (-1) then (some ((-103), s2)) else (bnd (f_X7_saidNow r1 s2) (fun r3 s4 => jn (fun (v6 : Unit) (s7 : xSt) => some (r3, s7)) (fun j8 => if r3 < (-1) then (j8 () s4) else (vb (up2 s4 0 14 0) (fun s9 => j8 () s9))))))
def f_X7_fits_34 (w2 : Int32) (k : Int32 → xSt → Option (Int32 × xSt)) : Nat → Int32 → Int32 → xSt → Option (Int32 × xSt)
  | 0, _, _, _ => none
  | n + 1, w1, w3, σ => if (σ.1 0 4) ≤ w3 then (k w1 σ) else (jn (fun (v14 : Int32) (s15 : xSt) => f_X7_fits_34 w2 k n v14 (w3 + 1) s15) (fun j16 => jn (fun (v19 : Unit) (s20 : xSt) => j16 0 s20) (fun j21 => if w1 = 0 then (j21 () σ) else (bnd (f_X7_isFine w2 w3 σ) (fun r22 s23 => if r22 = 0 then (j21 () s23) else (j16 1 s23))))))
def f_X7_fits_4 (k : Int32 → xSt → Option (Int32 × xSt)) : Nat → Int32 → Int32 → xSt → Option (Int32 × xSt)
  | 0, _, _, _ => none
  | n + 1, w1, w2, σ => if (σ.1 0 4) ≤ w2 then (k w1 σ) else (jn (fun (v4 : Int32) (s5 : xSt) => f_X7_fits_34 w2 (fun (e24 : Int32) (s25 : xSt) => f_X7_fits_4 k n e24 (w2 + 1) s25) FU v4 0 s5) (fun j6 => jn (fun (v26 : Unit) (s27 : xSt) => j6 0 s27) (fun j28 => if w1 = 0 then (j28 () σ) else (gi w2 14 (if (σ.1 5 w2.toNatClampNeg) = (-1) then (j28 () σ) else (j6 1 σ))))))
def f_X7_fits (σ : xSt) : Option (Int32 × xSt) := f_X7_fits_4 (fun (e29 : Int32) (s30 : xSt) => gb e29 (some (e29, s30))) FU 1 0 σ
def f_X7_flat_5 (w1 : Int32) (w2 : Int32) (k : Int32 → xSt → Option (Int32 × xSt)) : Nat → Int32 → Int32 → xSt → Option (Int32 × xSt)
  | 0, _, _, _ => none
  | n + 1, w3, w4, σ => if (σ.1 0 4) ≤ w4 then (k w3 σ) else (gi w4 14 (jn (fun (v8 : Int32) (s9 : xSt) => vb (w3 ||| v8) (fun x11 => f_X7_flat_5 w1 w2 k n x11 (w4 + 1) s9)) (fun j10 => jn (fun (v14 : Unit) (s15 : xSt) => j10 0 s15) (fun j16 => if (σ.1 5 w4.toNatClampNeg) = w1 then (bnd (f_X7_isWithin w4 w2 σ) (fun r17 s18 => if r17 = 0 then (j16 () s18) else (gi w4 14 (j10 (1 <<< ((s18.1 2 w4.toNatClampNeg) &&& 31)) s18)))) else (j16 () σ)))))
def f_X7_flat (a1 : Int32) (a2 : Int32) (σ : xSt) : Option (Int32 × xSt) := f_X7_flat_5 a1 a2 (fun (e19 : Int32) (s20 : xSt) => some (e19, s20)) FU 0 0 σ
def f_X7_upright_37 (w1 : Int32) (w2 : Int32) (k : Int32 → xSt → Option (Int32 × xSt)) : Nat → Int32 → Int32 → xSt → Option (Int32 × xSt)
  | 0, _, _, _ => none
  | n + 1, w3, w4, σ => if (σ.1 0 4) ≤ w4 then (k w3 σ) else (gi w4 14 (jn (fun (v28 : Int32) (s29 : xSt) => gi w4 14 (bnd (f_X7_top w2 s29) (fun r31 s32 => jn (fun (v36 : Int32) (s37 : xSt) => gi w4 14 (bnd (f_X7_bottom w2 s37) (fun r39 s40 => jn (fun (v44 : Int32) (s45 : xSt) => jn (fun (v56 : Int32) (s57 : xSt) => vb (w3 ||| v56) (fun x59 => f_X7_upright_37 w1 w2 k n x59 (w4 + 1) s57)) (fun j58 => jn (fun (v63 : Unit) (s64 : xSt) => j58 0 s64) (fun j65 => if v28 = 0 then (j65 () s45) else (jn (fun (v66 : Unit) (s67 : xSt) => gi w4 14 (j58 (1 <<< ((s67.1 2 w4.toNatClampNeg) &&& 31)) s67)) (fun j68 => if v36 = 0 then (if v44 = 0 then (j65 () s45) else (j68 () s45)) else (j68 () s45)))))) (fun j46 => jn (fun (v69 : Unit) (s70 : xSt) => j46 0 s70) (fun j71 => if (s37.1 2 w4.toNatClampNeg) = r39 then (gi w4 14 (if w1 < (s40.1 5 w4.toNatClampNeg) then (j71 () s40) else (j46 1 s40))) else (j71 () s40)))))) (fun j38 => jn (fun (v72 : Unit) (s73 : xSt) => j38 0 s73) (fun j74 => if (s29.1 2 w4.toNatClampNeg) = r31 then (gi w4 14 (if (s32.1 5 w4.toNatClampNeg) < w1 then (j74 () s32) else (j38 1 s32))) else (j74 () s32)))))) (fun j30 => jn (fun (v77 : Unit) (s78 : xSt) => j30 0 s78) (fun j79 => if (σ.1 5 w4.toNatClampNeg) = (-1) then (j79 () σ) else (bnd (f_X7_touches w4 w2 σ) (fun r80 s81 => if r80 = 0 then (j79 () s81) else (j30 1 s81)))))))
def f_X7_upright (a1 : Int32) (a2 : Int32) (σ : xSt) : Option (Int32 × xSt) := bnd (f_X7_top a2 σ) (fun r1 s2 => jn (fun (v18 : Int32) (s19 : xSt) => f_X7_upright_37 a1 a2 (fun (e82 : Int32) (s83 : xSt) => some (e82, s83)) FU v18 0 s19) (fun j20 => jn (fun (v90 : Unit) (s91 : xSt) => j20 0 s91) (fun j92 => if r1 = (-1) then (j92 () s2) else (bnd (f_X7_top a2 s2) (fun r93 s94 => bnd (f_X7_bottom a2 s94) (fun r95 s96 => if r93 = r95 then (bnd (f_X7_top a2 s96) (fun r97 s98 => j20 (1 <<< (r97 &&& 31)) s98)) else (j92 () s96)))))))
def f_X7_clashes_14 (w2 : Int32) (k : Int32 → xSt → Option (Int32 × xSt)) : Nat → Int32 → Int32 → xSt → Option (Int32 × xSt)
  | 0, _, _, _ => none
  | n + 1, w1, w3, σ => if (σ.1 0 0) ≤ w3 then (k w1 σ) else (bnd (f_X7_flat w2 w3 σ) (fun r3 s4 => bnd (f_X7_size r3 s4) (fun r5 s6 => jn (fun (v7 : Int32) (s8 : xSt) => vb (w1 + v7) (fun x10 => bnd (f_X7_upright w2 w3 s8) (fun r11 s12 => bnd (f_X7_size r11 s12) (fun r13 s14 => jn (fun (v15 : Int32) (s16 : xSt) => vb (x10 + v15) (fun x18 => f_X7_clashes_14 w2 k n x18 (w3 + 1) s16)) (fun j17 => if r13 ≤ 1 then (j17 0 s14) else (j17 1 s14)))))) (fun j9 => if r5 ≤ 1 then (j9 0 s6) else (j9 1 s6)))))
def f_X7_clashes_4 (k : Int32 → xSt → Option (Int32 × xSt)) : Nat → Int32 → Int32 → xSt → Option (Int32 × xSt)
  | 0, _, _, _ => none
  | n + 1, w1, w2, σ => bnd (f_X7_depth  σ) (fun r1 s2 => if r1 ≤ w2 then (k w1 s2) else (f_X7_clashes_14 w2 (fun (e19 : Int32) (s20 : xSt) => f_X7_clashes_4 k n e19 (w2 + 1) s20) FU w1 0 s2))
def f_X7_clashes (σ : xSt) : Option (Int32 × xSt) := f_X7_clashes_4 (fun (e21 : Int32) (s22 : xSt) => some (e21, s22)) FU 0 0 σ
def f_X7_inkLength (σ : xSt) : Option (Int32 × xSt) := bnd (f_X7_isThere  σ) (fun r1 s2 => jn (fun (v14 : Int32) (s15 : xSt) => some (v14, s15)) (fun j16 => jn (fun (v21 : Unit) (s22 : xSt) => j16 0 s22) (fun j23 => if r1 = 0 then (j23 () s2) else (bnd (f_X7_depth  s2) (fun r24 s25 => if r24 ≤ 0 then (j23 () s25) else (bnd (f_X7_depth  s25) (fun r26 s27 => j16 ((r26 * ((s27.1 0 0) + 1)) - 1) s27)))))))
def f_X7_inkNow (a1 : Int32) (σ : xSt) : Option (Int32 × xSt) := gz ((σ.1 0 0) + 1) (vb (a1 - a1 / ((σ.1 0 0) + 1) * ((σ.1 0 0) + 1)) (fun x1 => if x1 = (σ.1 0 0) then (some (47, σ)) else (gz ((σ.1 0 0) + 1) (bnd (f_X7_flat (a1 / ((σ.1 0 0) + 1)) x1 σ) (fun r2 s3 => jn (fun (v8 : Int32) (s9 : xSt) => some (v8, s9)) (fun j10 => if r2 = 0 then (j10 46 s3) else (bnd (f_X7_size r2 s3) (fun r11 s12 => if r11 ≤ 1 then (bnd (f_X7_leastOf r2 s12) (fun r13 s14 => j10 (97 + r13) s14)) else (j10 35 s12)))))))))
def f_X7_ink (a1 : Int32) (σ : xSt) : Option (Int32 × xSt) := bnd (f_X7_inkLength  σ) (fun r1 s2 => bnd (f_X7_within a1 0 (r1 - 1) s2) (fun r3 s4 => jn (fun (v7 : Int32) (s8 : xSt) => some (v7, s8)) (fun j9 => if r3 = 0 then (j9 (-101) s4) else (bnd (f_X7_inkNow a1 s4) (fun r10 s11 => j9 r10 s11)))))
def f_X7_netsIn_4 (w1 : Int32) (k : Int32 → xSt → Option (Int32 × xSt)) : Nat → Int32 → Int32 → xSt → Option (Int32 × xSt)
  | 0, _, _, _ => none
  | n + 1, w2, w3, σ => if (σ.1 0 4) ≤ w3 then (k w2 σ) else (bnd (f_X7_isWithin w3 w1 σ) (fun r1 s2 => jn (fun (v3 : Int32) (s4 : xSt) => vb (w2 ||| v3) (fun x6 => f_X7_netsIn_4 w1 k n x6 (w3 + 1) s4)) (fun j5 => if r1 = 0 then (j5 0 s2) else (gi w3 14 (j5 (1 <<< ((s2.1 2 w3.toNatClampNeg) &&& 31)) s2)))))
def f_X7_netsIn (a1 : Int32) (σ : xSt) : Option (Int32 × xSt) := f_X7_netsIn_4 a1 (fun (e7 : Int32) (s8 : xSt) => some (e7, s8)) FU 0 0 σ
def f_X7_density_4 (k : Int32 → xSt → Option (Int32 × xSt)) : Nat → Int32 → Int32 → xSt → Option (Int32 × xSt)
  | 0, _, _, _ => none
  | n + 1, w1, w2, σ => if (σ.1 0 0) ≤ w2 then (k w1 σ) else (bnd (f_X7_netsIn w2 σ) (fun r1 s2 => bnd (f_X7_size r1 s2) (fun r3 s4 => jn (fun (v5 : Int32) (s6 : xSt) => f_X7_density_4 k n v5 (w2 + 1) s6) (fun j7 => if r3 ≤ w1 then (j7 w1 s4) else (j7 r3 s4)))))
def f_X7_density (σ : xSt) : Option (Int32 × xSt) := f_X7_density_4 (fun (e8 : Int32) (s9 : xSt) => some (e8, s9)) FU 0 0 σ
def f_X7_isZone_19 (w1 : Int32) (w2 : Int32) (k : Int32 → xSt → Option (Int32 × xSt)) : Nat → Int32 → Int32 → xSt → Option (Int32 × xSt)
  | 0, _, _, _ => none
  | n + 1, w3, w4, σ => if (σ.1 0 0) ≤ w4 then (k w3 σ) else (bnd (f_X7_netsIn w4 σ) (fun r6 s7 => jn (fun (v8 : Int32) (s9 : xSt) => jn (fun (v26 : Int32) (s27 : xSt) => f_X7_isZone_19 w1 w2 k n v26 (w4 + 1) s27) (fun j28 => jn (fun (v35 : Unit) (s36 : xSt) => j28 0 s36) (fun j37 => if w3 = 0 then (j37 () s9) else (jn (fun (v38 : Unit) (s39 : xSt) => jn (fun (v41 : Unit) (s42 : xSt) => j28 1 s42) (fun j43 => if r6 = w2 then (if w4 < w1 then (j37 () s39) else (j43 () s39)) else (j43 () s39))) (fun j40 => if v8 = 0 then (j40 () s9) else (if r6 = w2 then (j40 () s9) else (j37 () s9))))))) (fun j10 => if (w2 &&& r6) = w2 then (j10 1 s7) else (j10 0 s7))))
def f_X7_isZone (a1 : Int32) (σ : xSt) : Option (Int32 × xSt) := bnd (f_X7_netsIn a1 σ) (fun r1 s2 => jn (fun (v3 : Int32) (s4 : xSt) => f_X7_isZone_19 a1 r1 (fun (e44 : Int32) (s45 : xSt) => gb e44 (some (e44, s45))) FU v3 0 s4) (fun j5 => if r1 = 0 then (j5 0 s2) else (j5 1 s2)))
def f_X7_zones_4 (w1 : Int32) (k : Int32 → xSt → Option (Int32 × xSt)) : Nat → Int32 → Int32 → xSt → Option (Int32 × xSt)
  | 0, _, _, _ => none
  | n + 1, w2, w3, σ => if (σ.1 0 0) ≤ w3 then (k w2 σ) else (bnd (f_X7_isZone w3 σ) (fun r1 s2 => jn (fun (v5 : Int32) (s6 : xSt) => f_X7_zones_4 w1 k n v5 (w3 + 1) s6) (fun j7 => if r1 = 0 then (j7 w2 s2) else (if w2 = w1 then (bnd (f_X7_netsIn w3 s2) (fun r8 s9 => some (r8, s9))) else (j7 (w2 + 1) s2)))))
def f_X7_zones (a1 : Int32) (σ : xSt) : Option (Int32 × xSt) := f_X7_zones_4 a1 (fun (e10 : Int32) (s11 : xSt) => jn (fun (v12 : Int32) (s13 : xSt) => some (v12, s13)) (fun j14 => if a1 = (-1) then (j14 e10 s11) else (j14 (-1) s11))) FU 0 0 σ
def f_X7_levelOf_2 (k : xSt → Option (Int32 × xSt)) : Nat → Int32 → xSt → Option (Int32 × xSt)
  | 0, _, _ => none
  | n + 1, w2, σ => if (σ.1 0 4) ≤ w2 then (k  σ) else (gi w2 14 (vb (up2 σ 11 w2.toNatClampNeg 0) (fun s1 => f_X7_levelOf_2 k n (w2 + 1) s1)))
def f_X7_levelOf_46 (w3 : Int32) (k : xSt → Option (Int32 × xSt)) : Nat → Int32 → xSt → Option (Int32 × xSt)
  | 0, _, _ => none
  | n + 1, w4, σ => if (σ.1 0 4) ≤ w4 then (k  σ) else (gi w3 14 (bnd (f_X7_isBit (σ.1 6 w3.toNatClampNeg) w4 σ) (fun r3 s4 => jn (fun (v8 : Int32) (s9 : xSt) => jn (fun (v11 : Int32) (s12 : xSt) => gi w4 14 (vb (up2 s12 11 w4.toNatClampNeg v11) (fun s14 => f_X7_levelOf_46 w3 k n (w4 + 1) s14))) (fun j13 => if v8 = 0 then (gi w4 14 (j13 (s9.1 11 w4.toNatClampNeg) s9)) else (gi w3 14 (j13 ((s9.1 11 w3.toNatClampNeg) + 1) s9)))) (fun j10 => jn (fun (v15 : Unit) (s16 : xSt) => j10 0 s16) (fun j17 => if r3 = 0 then (j17 () s4) else (gi w4 14 (gi w3 14 (if (s4.1 11 w3.toNatClampNeg) < (s4.1 11 w4.toNatClampNeg) then (j17 () s4) else (j10 1 s4)))))))))
def f_X7_levelOf_35 (k : xSt → Option (Int32 × xSt)) : Nat → Int32 → xSt → Option (Int32 × xSt)
  | 0, _, _ => none
  | n + 1, w3, σ => if (σ.1 0 4) ≤ w3 then (k  σ) else (f_X7_levelOf_46 w3 (fun (s18 : xSt) => f_X7_levelOf_35 k n (w3 + 1) s18) FU 0 σ)
def f_X7_levelOf_25 (k : xSt → Option (Int32 × xSt)) : Nat → Int32 → xSt → Option (Int32 × xSt)
  | 0, _, _ => none
  | n + 1, w2, σ => if (σ.1 0 4) ≤ w2 then (k  σ) else (f_X7_levelOf_35 (fun (s19 : xSt) => f_X7_levelOf_25 k n (w2 + 1) s19) FU 0 σ)
def f_X7_levelOf (a1 : Int32) (σ : xSt) : Option (Int32 × xSt) := f_X7_levelOf_2 (fun (s2 : xSt) => f_X7_levelOf_25 (fun (s20 : xSt) => gi a1 14 (some (s20.1 11 a1.toNatClampNeg, s20))) FU 0 s2) FU 0 σ
def f_X7_level (a1 : Int32) (σ : xSt) : Option (Int32 × xSt) := if (σ.1 0 11) ≤ 0 then (bnd (f_X7_levelOf a1 σ) (fun r1 s2 => some (r1, s2))) else (some ((-1), σ))
def f_X7_chain_4 (k : Int32 → xSt → Option (Int32 × xSt)) : Nat → Int32 → Int32 → xSt → Option (Int32 × xSt)
  | 0, _, _, _ => none
  | n + 1, w1, w2, σ => if (σ.1 0 4) ≤ w2 then (k w1 σ) else (bnd (f_X7_level w2 σ) (fun r1 s2 => vb (r1 + 1) (fun x3 => jn (fun (v4 : Int32) (s5 : xSt) => f_X7_chain_4 k n v4 (w2 + 1) s5) (fun j6 => if x3 ≤ w1 then (j6 w1 s2) else (j6 x3 s2)))))
def f_X7_chain (σ : xSt) : Option (Int32 × xSt) := f_X7_chain_4 (fun (e7 : Int32) (s8 : xSt) => jn (fun (v9 : Int32) (s10 : xSt) => some (v9, s10)) (fun j11 => if (s8.1 0 11) ≤ 0 then (j11 e7 s8) else (j11 (-1) s8))) FU 0 0 σ
def f_X7_breakBy_2 (w1 : Int32) (k : xSt → Option (Int32 × xSt)) : Nat → Int32 → xSt → Option (Int32 × xSt)
  | 0, _, _ => none
  | n + 1, w2, σ => if 64 ≤ w2 then (k  σ) else (bnd (f_X7_size w2 σ) (fun r1 s2 => jn (fun (v7 : Unit) (s8 : xSt) => f_X7_breakBy_2 w1 k n (w2 + 1) s8) (fun j9 => if r1 = w1 then (bnd (f_X7_laySegments w2 s2) (fun r10 s11 => bnd (f_X7_isRing  s11) (fun r12 s13 => if r12 = 0 then (some (w2, s13)) else (j9 () s13)))) else (j9 () s2))))
def f_X7_breakBy (a1 : Int32) (σ : xSt) : Option (Int32 × xSt) := f_X7_breakBy_2 a1 (fun (s14 : xSt) => some ((-1), s14)) FU 0 σ
def f_X7_breakNow_4 (k : Int32 → xSt → Option (Int32 × xSt)) : Nat → Int32 → Int32 → xSt → Option (Int32 × xSt)
  | 0, _, _, _ => none
  | n + 1, w1, w2, σ => if 6 < w2 then (k w1 σ) else (if w1 = (-1) then (bnd (f_X7_breakBy w2 σ) (fun r1 s2 => f_X7_breakNow_4 k n r1 (w2 + 1) s2)) else (k w1 σ))
def f_X7_breakNow (σ : xSt) : Option (Int32 × xSt) := f_X7_breakNow_4 (fun (e3 : Int32) (s4 : xSt) => bnd (f_X7_laySegments (s4.1 0 2) s4) (fun r5 s6 => some (e3, s6))) FU (-1) 0 σ
def f_X7_aboutNow (a1 : Int32) (σ : xSt) : Option (Int32 × xSt) := if a1 = 0 then (some (σ.1 0 0, σ)) else (if a1 = 1 then (some (σ.1 0 4, σ)) else (if a1 = 2 then (bnd (f_X7_density  σ) (fun r3 s4 => some (r3, s4))) else (if a1 = 3 then (bnd (f_X7_chain  σ) (fun r6 s7 => some (r6, s7))) else (if a1 = 4 then (some (σ.1 0 11, σ)) else (if a1 = 5 then (bnd (f_X7_breakNow  σ) (fun r10 s11 => some (r10, s11))) else (if a1 = 6 then (bnd (f_X7_zones (-1) σ) (fun r13 s14 => some (r13, s14))) else (if a1 = 7 then (bnd (f_X7_depth  σ) (fun r16 s17 => some (r16, s17))) else (if a1 = 8 then (bnd (f_X7_fits  σ) (fun r19 s20 => jn (fun (v21 : Int32) (s22 : xSt) => some (v21, s22)) (fun j23 => if r19 = 0 then (j23 0 s20) else (j23 1 s20)))) else (bnd (f_X7_clashes  σ) (fun r25 s26 => some (r25, s26)))))))))))
def f_X7_about (a1 : Int32) (σ : xSt) : Option (Int32 × xSt) := bnd (f_X7_within a1 0 9 σ) (fun r1 s2 => if r1 = 0 then (some ((-102), s2)) else (bnd (f_X7_isThere  s2) (fun r3 s4 => jn (fun (v7 : Int32) (s8 : xSt) => some (v7, s8)) (fun j9 => if r3 = 0 then (j9 (-103) s4) else (bnd (f_X7_aboutNow a1 s4) (fun r10 s11 => j9 r10 s11))))))
def f_X7_pin (a1 : Int32) (a2 : Int32) (σ : xSt) : Option (Int32 × xSt) := bnd (f_X7_isColumn a1 σ) (fun r1 s2 => jn (fun (v5 : Int32) (s6 : xSt) => some (v5, s6)) (fun j7 => if r1 = 0 then (j7 (-101) s2) else (bnd (f_X7_within a2 0 1 s2) (fun r8 s9 => if r8 = 0 then (j7 (-102) s9) else (gi ((2 * a1) + a2) 16 (j7 (s9.1 1 ((2 * a1) + a2).toNatClampNeg) s9))))))
def f_X7_pinsOf_4 (w1 : Int32) (k : Int32 → xSt → Option (Int32 × xSt)) : Nat → Int32 → Int32 → xSt → Option (Int32 × xSt)
  | 0, _, _, _ => none
  | n + 1, w2, w3, σ => if (2 * (σ.1 0 0)) ≤ w3 then (k w2 σ) else (gi w3 16 (jn (fun (v1 : Int32) (s2 : xSt) => vb (w2 + v1) (fun x4 => f_X7_pinsOf_4 w1 k n x4 (w3 + 1) s2)) (fun j3 => if (σ.1 1 w3.toNatClampNeg) = w1 then (j3 1 σ) else (j3 0 σ))))
def f_X7_pinsOf (a1 : Int32) (σ : xSt) : Option (Int32 × xSt) := f_X7_pinsOf_4 a1 (fun (e5 : Int32) (s6 : xSt) => some (e5, s6)) FU 0 0 σ
def f_X7_isNetThere (a1 : Int32) (σ : xSt) : Option (Int32 × xSt) := bnd (f_X7_within a1 0 5 σ) (fun r1 s2 => jn (fun (v10 : Int32) (s11 : xSt) => gb v10 (some (v10, s11))) (fun j12 => jn (fun (v15 : Unit) (s16 : xSt) => j12 0 s16) (fun j17 => if r1 = 0 then (j17 () s2) else (bnd (f_X7_pinsOf a1 s2) (fun r18 s19 => if r18 ≤ 0 then (j17 () s19) else (j12 1 s19))))))
def f_X7_firstPin_2 (w1 : Int32) (k : Int32 → xSt → Option (Int32 × xSt)) : Nat → Int32 → xSt → Option (Int32 × xSt)
  | 0, _, _ => none
  | n + 1, w2, σ => bnd (f_X7_hasPin w1 w2 σ) (fun r1 s2 => if r1 = 0 then (f_X7_firstPin_2 w1 k n (w2 + 1) s2) else (k w2 s2))
def f_X7_firstPin (a1 : Int32) (σ : xSt) : Option (Int32 × xSt) := f_X7_firstPin_2 a1 (fun (e3 : Int32) (s4 : xSt) => some (e3, s4)) FU 0 σ
def f_X7_lastPin_7 (w1 : Int32) (k : Int32 → xSt → Option (Int32 × xSt)) : Nat → Int32 → xSt → Option (Int32 × xSt)
  | 0, _, _ => none
  | n + 1, w2, σ => bnd (f_X7_hasPin w1 w2 σ) (fun r2 s3 => if r2 = 0 then (f_X7_lastPin_7 w1 k n (w2 + (-1)) s3) else (k w2 s3))
def f_X7_lastPin (a1 : Int32) (σ : xSt) : Option (Int32 × xSt) := vb ((σ.1 0 0) - 1) (fun x1 => f_X7_lastPin_7 a1 (fun (e4 : Int32) (s5 : xSt) => some (e4, s5)) FU x1 σ)
def f_X7_segmentsOf_4 (w1 : Int32) (k : Int32 → xSt → Option (Int32 × xSt)) : Nat → Int32 → Int32 → xSt → Option (Int32 × xSt)
  | 0, _, _, _ => none
  | n + 1, w2, w3, σ => if (σ.1 0 4) ≤ w3 then (k w2 σ) else (gi w3 14 (jn (fun (v1 : Int32) (s2 : xSt) => vb (w2 + v1) (fun x4 => f_X7_segmentsOf_4 w1 k n x4 (w3 + 1) s2)) (fun j3 => if (σ.1 2 w3.toNatClampNeg) = w1 then (j3 1 σ) else (j3 0 σ))))
def f_X7_segmentsOf (a1 : Int32) (σ : xSt) : Option (Int32 × xSt) := f_X7_segmentsOf_4 a1 (fun (e5 : Int32) (s6 : xSt) => some (e5, s6)) FU 0 0 σ
def f_X7_netNow (a1 : Int32) (a2 : Int32) (σ : xSt) : Option (Int32 × xSt) := if a2 = 0 then (bnd (f_X7_pinsOf a1 σ) (fun r1 s2 => some (r1, s2))) else (if a2 = 1 then (bnd (f_X7_firstPin a1 σ) (fun r4 s5 => some (r4, s5))) else (if a2 = 2 then (bnd (f_X7_lastPin a1 σ) (fun r7 s8 => some (r7, s8))) else (if a2 = 3 then (some (((σ.1 0 2) >>> (a1 &&& 31)) &&& 1, σ)) else (bnd (f_X7_segmentsOf a1 σ) (fun r11 s12 => some (r11, s12))))))
def f_X7_net (a1 : Int32) (a2 : Int32) (σ : xSt) : Option (Int32 × xSt) := bnd (f_X7_isNetThere a1 σ) (fun r1 s2 => jn (fun (v7 : Int32) (s8 : xSt) => some (v7, s8)) (fun j9 => if r1 = 0 then (j9 (-101) s2) else (bnd (f_X7_within a2 0 4 s2) (fun r10 s11 => if r10 = 0 then (j9 (-102) s11) else (bnd (f_X7_netNow a1 a2 s11) (fun r12 s13 => j9 r12 s13))))))
def f_X7_isSegment (a1 : Int32) (σ : xSt) : Option (Int32 × xSt) := bnd (f_X7_within a1 0 ((σ.1 0 4) - 1) σ) (fun r1 s2 => gb r1 (some (r1, s2)))
def f_X7_overIt_4 (w1 : Int32) (k : Int32 → xSt → Option (Int32 × xSt)) : Nat → Int32 → Int32 → xSt → Option (Int32 × xSt)
  | 0, _, _, _ => none
  | n + 1, w2, w3, σ => if (σ.1 0 4) ≤ w3 then (k w2 σ) else (gi w3 14 (vb (w2 + (((σ.1 6 w3.toNatClampNeg) >>> (w1 &&& 31)) &&& 1)) (fun x1 => f_X7_overIt_4 w1 k n x1 (w3 + 1) σ)))
def f_X7_overIt (a1 : Int32) (σ : xSt) : Option (Int32 × xSt) := f_X7_overIt_4 a1 (fun (e2 : Int32) (s3 : xSt) => some (e2, s3)) FU 0 0 σ
def f_X7_segmentNow (a1 : Int32) (a2 : Int32) (σ : xSt) : Option (Int32 × xSt) := if a2 = 0 then (gi a1 14 (some (σ.1 2 a1.toNatClampNeg, σ))) else (if a2 = 1 then (gi a1 14 (some (σ.1 3 a1.toNatClampNeg, σ))) else (if a2 = 2 then (gi a1 14 (some (σ.1 4 a1.toNatClampNeg, σ))) else (if a2 = 3 then (gi a1 14 (some (σ.1 5 a1.toNatClampNeg, σ))) else (if a2 = 4 then (gi a1 14 (bnd (f_X7_size (σ.1 6 a1.toNatClampNeg) σ) (fun r5 s6 => some (r5, s6)))) else (if a2 = 5 then (bnd (f_X7_overIt a1 σ) (fun r8 s9 => some (r8, s9))) else (bnd (f_X7_level a1 σ) (fun r11 s12 => some (r11, s12))))))))
def f_X7_segment (a1 : Int32) (a2 : Int32) (σ : xSt) : Option (Int32 × xSt) := bnd (f_X7_isSegment a1 σ) (fun r1 s2 => jn (fun (v7 : Int32) (s8 : xSt) => some (v7, s8)) (fun j9 => if r1 = 0 then (j9 (-101) s2) else (bnd (f_X7_within a2 0 6 s2) (fun r10 s11 => if r10 = 0 then (j9 (-102) s11) else (bnd (f_X7_segmentNow a1 a2 s11) (fun r12 s13 => j9 r12 s13))))))
def f_X7_above (a1 : Int32) (a2 : Int32) (σ : xSt) : Option (Int32 × xSt) := bnd (f_X7_isSegment a1 σ) (fun r1 s2 => jn (fun (v10 : Int32) (s11 : xSt) => some (v10, s11)) (fun j12 => jn (fun (v15 : Unit) (s16 : xSt) => j12 (-101) s16) (fun j17 => if r1 = 0 then (j17 () s2) else (bnd (f_X7_isSegment a2 s2) (fun r18 s19 => if r18 = 0 then (j17 () s19) else (gi a1 14 (j12 (((s19.1 6 a1.toNatClampNeg) >>> (a2 &&& 31)) &&& 1) s19)))))))
def f_X7_isFree (a1 : Int32) (a2 : Int32) (σ : xSt) : Option (Int32 × xSt) := bnd (f_X7_isMet a1 a2 σ) (fun r1 s2 => jn (fun (v14 : Int32) (s15 : xSt) => gb v14 (some (v14, s15))) (fun j16 => jn (fun (v21 : Unit) (s22 : xSt) => j16 0 s22) (fun j23 => if r1 = 0 then (gi a1 14 (bnd (f_X7_isBit (s2.1 7 a1.toNatClampNeg) a2 s2) (fun r24 s25 => if r24 = 0 then (gi a2 14 (bnd (f_X7_isBit (s25.1 7 a2.toNatClampNeg) a1 s25) (fun r26 s27 => if r26 = 0 then (j16 1 s27) else (j23 () s27)))) else (j23 () s25)))) else (j23 () s2))))
def f_X7_may (a1 : Int32) (a2 : Int32) (σ : xSt) : Option (Int32 × xSt) := bnd (f_X7_isSegment a1 σ) (fun r1 s2 => jn (fun (v14 : Int32) (s15 : xSt) => some (v14, s15)) (fun j16 => jn (fun (v21 : Unit) (s22 : xSt) => j16 (-101) s22) (fun j23 => if r1 = 0 then (j23 () s2) else (bnd (f_X7_isSegment a2 s2) (fun r24 s25 => if r24 = 0 then (j23 () s25) else (bnd (f_X7_isFree a1 a2 s25) (fun r26 s27 => if r26 = 0 then (j16 0 s27) else (j16 1 s27))))))))
def f_X7_ring (a1 : Int32) (σ : xSt) : Option (Int32 × xSt) := bnd (f_X7_within a1 0 ((σ.1 0 11) - 1) σ) (fun r1 s2 => jn (fun (v3 : Int32) (s4 : xSt) => some (v3, s4)) (fun j5 => if r1 = 0 then (j5 (-101) s2) else (gi a1 14 (j5 (s2.1 8 a1.toNatClampNeg) s2))))
def f_X7_zone (a1 : Int32) (σ : xSt) : Option (Int32 × xSt) := jn (fun (v12 : Int32) (s13 : xSt) => some (v12, s13)) (fun j14 => jn (fun (v19 : Unit) (s20 : xSt) => j14 (-101) s20) (fun j21 => if a1 < 0 then (j21 () σ) else (bnd (f_X7_zones a1 σ) (fun r22 s23 => if r22 = (-1) then (j21 () s23) else (bnd (f_X7_zones a1 s23) (fun r24 s25 => j14 r24 s25))))))
def f_X7_put (a1 : Int32) (a2 : Int32) (a3 : Int32) (σ : xSt) : Option (Int32 × xSt) := bnd (f_X7_isColumn a1 σ) (fun r1 s2 => if r1 = 0 then (some ((-101), s2)) else (bnd (f_X7_within a2 0 1 s2) (fun r3 s4 => jn (fun (v11 : Unit) (s12 : xSt) => some ((-102), s12)) (fun j13 => if r3 = 0 then (j13 () s4) else (bnd (f_X7_within a3 (-1) 5 s4) (fun r14 s15 => if r14 = 0 then (j13 () s15) else (gi ((2 * a1) + a2) 16 (vb (s15.1 1 ((2 * a1) + a2).toNatClampNeg) (fun x16 => gi ((2 * a1) + a2) 16 (vb (up2 s15 1 ((2 * a1) + a2).toNatClampNeg a3) (fun s17 => bnd (f_X7_layNew  s17) (fun r18 s19 => some (x16, s19)))))))))))))
def f_X7_set (a1 : Int32) (a2 : Int32) (σ : xSt) : Option (Int32 × xSt) := bnd (f_X7_isSegment a1 σ) (fun r1 s2 => if r1 = 0 then (some ((-101), s2)) else (bnd (f_X7_within a2 (-1) 13 s2) (fun r3 s4 => if r3 = 0 then (some ((-102), s4)) else (gi a1 14 (vb (s4.1 5 a1.toNatClampNeg) (fun x5 => gi a1 14 (vb (up2 s4 5 a1.toNatClampNeg a2) (fun s6 => some (x5, s6)))))))))
def f_X7_cell (a1 : Int32) (a2 : Int32) (a3 : Int32) (σ : xSt) : Option (Int32 × xSt) := bnd (f_X7_isThere  σ) (fun r1 s2 => jn (fun (v40 : Unit) (s41 : xSt) => some ((-101), s41)) (fun j42 => if r1 = 0 then (j42 () s2) else (bnd (f_X7_depth  s2) (fun r43 s44 => bnd (f_X7_within a1 0 (r43 - 1) s44) (fun r45 s46 => if r45 = 0 then (j42 () s46) else (bnd (f_X7_isColumn a2 s46) (fun r47 s48 => if r47 = 0 then (j42 () s48) else (bnd (f_X7_within a3 0 1 s48) (fun r49 s50 => jn (fun (v64 : Int32) (s65 : xSt) => some (v64, s65)) (fun j66 => if r49 = 0 then (j66 (-102) s50) else (jn (fun (v71 : Int32) (s72 : xSt) => bnd (f_X7_leastOf v71 s72) (fun r74 s75 => j66 r74 s75)) (fun j73 => if a3 = 0 then (bnd (f_X7_flat a1 a2 s50) (fun r78 s79 => j73 r78 s79)) else (bnd (f_X7_upright a1 a2 s50) (fun r76 s77 => j73 r76 s77))))))))))))))
def f_X7_netsThere_4 (k : Int32 → xSt → Option (Int32 × xSt)) : Nat → Int32 → Int32 → xSt → Option (Int32 × xSt)
  | 0, _, _, _ => none
  | n + 1, w1, w2, σ => if 6 ≤ w2 then (k w1 σ) else (bnd (f_X7_pinsOf w2 σ) (fun r1 s2 => jn (fun (v3 : Int32) (s4 : xSt) => vb (w1 + v3) (fun x6 => f_X7_netsThere_4 k n x6 (w2 + 1) s4)) (fun j5 => if r1 ≤ 0 then (j5 0 s2) else (j5 1 s2))))
def f_X7_netsThere (σ : xSt) : Option (Int32 × xSt) := f_X7_netsThere_4 (fun (e7 : Int32) (s8 : xSt) => some (e7, s8)) FU 0 0 σ
def f_X7_howMany (a1 : Int32) (σ : xSt) : Option (Int32 × xSt) := if a1 = 0 then (some (σ.1 0 0, σ)) else (if a1 = 1 then (bnd (f_X7_pinsOf (-1) σ) (fun r2 s3 => some ((2 * (σ.1 0 0)) - r2, s3))) else (if a1 = 2 then (bnd (f_X7_netsThere  σ) (fun r5 s6 => some (r5, s6))) else (if a1 = 3 then (bnd (f_X7_size (σ.1 0 2) σ) (fun r8 s9 => some (r8, s9))) else (if a1 = 4 then (some (σ.1 0 4, σ)) else (if a1 = 5 then (bnd (f_X7_withTrack  σ) (fun r12 s13 => some (r12, s13))) else (if a1 = 6 then (some (σ.1 0 14, σ)) else (if a1 = 7 then (some (σ.1 0 3, σ)) else (if a1 = 8 then (some (σ.1 0 13, σ)) else (some ((-102), σ))))))))))
def f_X7_count (a1 : Int32) (σ : xSt) : Option (Int32 × xSt) := bnd (f_X7_howMany a1 σ) (fun r1 s2 => some (r1, s2))
def f_X7_mix (a1 : Int64) (σ : xSt) : Option (Unit × xSt) := vb (upl σ ((31 * σ.2) + a1)) (fun s1 => some ((), s1))
def f_X7_mixSegments_2 (k : xSt → Option (Unit × xSt)) : Nat → Int32 → xSt → Option (Unit × xSt)
  | 0, _, _ => none
  | n + 1, w1, σ => if (7 * (σ.1 0 4)) ≤ w1 then (k  σ) else (gz 7 (gz 7 (bnd (f_X7_segmentNow (w1 / 7) (w1 - w1 / 7 * 7) σ) (fun r1 s2 => bnd (f_X7_mix r1.toInt64 s2) (fun r3 s4 => f_X7_mixSegments_2 k n (w1 + 1) s4)))))
def f_X7_mixSegments_38 (k : xSt → Option (Unit × xSt)) : Nat → Int32 → xSt → Option (Unit × xSt)
  | 0, _, _ => none
  | n + 1, w1, σ => if (σ.1 0 11) ≤ w1 then (k  σ) else (gi w1 14 (bnd (f_X7_mix ((σ.1 8 w1.toNatClampNeg).toInt64) σ) (fun r6 s7 => f_X7_mixSegments_38 k n (w1 + 1) s7)))
def f_X7_mixSegments_71 (w1 : Int32) (k : xSt → Option (Unit × xSt)) : Nat → Int32 → xSt → Option (Unit × xSt)
  | 0, _, _ => none
  | n + 1, w2, σ => if w1 ≤ w2 then (k  σ) else (bnd (f_X7_zones w2 σ) (fun r11 s12 => bnd (f_X7_mix r11.toInt64 s12) (fun r13 s14 => f_X7_mixSegments_71 w1 k n (w2 + 1) s14)))
def f_X7_mixSegments (σ : xSt) : Option (Unit × xSt) := f_X7_mixSegments_2 (fun (s5 : xSt) => f_X7_mixSegments_38 (fun (s8 : xSt) => bnd (f_X7_zones (-1) s8) (fun r9 s10 => f_X7_mixSegments_71 r9 (fun (s15 : xSt) => some ((), s15)) FU 0 s10)) FU 0 s5) FU 0 σ
def f_X7_mixChannel_2 (k : xSt → Option (Unit × xSt)) : Nat → Int32 → xSt → Option (Unit × xSt)
  | 0, _, _ => none
  | n + 1, w1, σ => if 10 ≤ w1 then (k  σ) else (bnd (f_X7_aboutNow w1 σ) (fun r1 s2 => bnd (f_X7_mix r1.toInt64 s2) (fun r3 s4 => f_X7_mixChannel_2 k n (w1 + 1) s4)))
def f_X7_mixChannel_26 (k : xSt → Option (Unit × xSt)) : Nat → Int32 → xSt → Option (Unit × xSt)
  | 0, _, _ => none
  | n + 1, w1, σ => if (2 * (σ.1 0 0)) ≤ w1 then (k  σ) else (gi w1 16 (bnd (f_X7_mix ((σ.1 1 w1.toNatClampNeg).toInt64) σ) (fun r6 s7 => f_X7_mixChannel_26 k n (w1 + 1) s7)))
def f_X7_mixChannel_55 (k : xSt → Option (Unit × xSt)) : Nat → Int32 → xSt → Option (Unit × xSt)
  | 0, _, _ => none
  | n + 1, w1, σ => if 6 ≤ w1 then (k  σ) else (bnd (f_X7_mix ((((σ.1 0 2) >>> (w1 &&& 31)) &&& 1).toInt64) σ) (fun r9 s10 => f_X7_mixChannel_55 k n (w1 + 1) s10))
def f_X7_mixChannel_91 (w1 : Int32) (k : xSt → Option (Unit × xSt)) : Nat → Int32 → xSt → Option (Unit × xSt)
  | 0, _, _ => none
  | n + 1, w2, σ => if w1 ≤ w2 then (k  σ) else (bnd (f_X7_inkNow w2 σ) (fun r16 s17 => bnd (f_X7_mix r16.toInt64 s17) (fun r18 s19 => f_X7_mixChannel_91 w1 k n (w2 + 1) s19)))
def f_X7_mixChannel_124 (w2 : Int32) (k : xSt → Option (Unit × xSt)) : Nat → Int32 → xSt → Option (Unit × xSt)
  | 0, _, _ => none
  | n + 1, w3, σ => if w2 ≤ w3 then (k  σ) else (gz (σ.1 0 0) (gz (σ.1 0 0) (bnd (f_X7_upright (w3 / (σ.1 0 0)) (w3 - w3 / (σ.1 0 0) * (σ.1 0 0)) σ) (fun r24 s25 => bnd (f_X7_leastOf r24 s25) (fun r26 s27 => bnd (f_X7_mix r26.toInt64 s27) (fun r28 s29 => f_X7_mixChannel_124 w2 k n (w3 + 1) s29))))))
def f_X7_mixChannel (σ : xSt) : Option (Unit × xSt) := f_X7_mixChannel_2 (fun (s5 : xSt) => f_X7_mixChannel_26 (fun (s8 : xSt) => f_X7_mixChannel_55 (fun (s11 : xSt) => bnd (f_X7_mixSegments  s11) (fun r12 s13 => bnd (f_X7_inkLength  s13) (fun r14 s15 => f_X7_mixChannel_91 r14 (fun (s20 : xSt) => bnd (f_X7_depth  s20) (fun r21 s22 => vb (r21 * (s22.1 0 0)) (fun x23 => f_X7_mixChannel_124 x23 (fun (s30 : xSt) => some ((), s30)) FU 0 s22))) FU 0 s15))) FU 0 s8) FU 0 s5) FU 0 σ
def f_X7_digest_20 (k : xSt → Option (Int64 × xSt)) : Nat → Int32 → xSt → Option (Int64 × xSt)
  | 0, _, _ => none
  | n + 1, w1, σ => if (σ.1 0 14) ≤ w1 then (k  σ) else (gi w1 20 (bnd (f_X7_mix ((σ.1 9 w1.toNatClampNeg).toInt64) σ) (fun r9 s10 => f_X7_digest_20 k n (w1 + 1) s10)))
def f_X7_digest_47 (k : xSt → Option (Int64 × xSt)) : Nat → Int32 → xSt → Option (Int64 × xSt)
  | 0, _, _ => none
  | n + 1, w1, σ => if 9 ≤ w1 then (k  σ) else (bnd (f_X7_howMany w1 σ) (fun r12 s13 => bnd (f_X7_mix r12.toInt64 s13) (fun r14 s15 => f_X7_digest_47 k n (w1 + 1) s15)))
def f_X7_digest (σ : xSt) : Option (Int64 × xSt) := vb (upl σ 1489) (fun s1 => bnd (f_X7_isThere  s1) (fun r2 s3 => jn (fun (v6 : Unit) (s7 : xSt) => f_X7_digest_20 (fun (s11 : xSt) => f_X7_digest_47 (fun (s16 : xSt) => some (s16.2, s16)) FU 0 s11) FU 0 s7) (fun j8 => if r2 = 0 then (j8 () s3) else (bnd (f_X7_mixChannel  s3) (fun r17 s18 => j8 () s18)))))
end
section
theorem c_X7_within (a0 : Int32) (a1 : Int32) (a2 : Int32) (σ : xSt) : CON κi yX7_within m_X7_within false 0 shM [.int a0, .int a1, .int a2] σ (f_X7_within a0 a1 a2 σ) := by
  refine x_con (L := [some (.int a0), some (.int a1), some (.int a2)]) (by decide) rfl rfl rfl ?_
  unfold f_X7_within
  refine x_iload_n dX7_within_0 rfl rfl ?_
  refine x_iload_n dX7_within_1 rfl rfl ?_
  refine x_jn 15 (fun (v4 : Int32) => [none, none, none]) (fun (v4 : Int32) => [.int v4]) (fun v4 s5 => ?_) (fun j6 hj6 => ?_)
  · exact x_zret dX7_within_15 rfl
  · refine x_jn 14 (fun (v7 : Unit) => [none, none, none]) (fun (v7 : Unit) => []) (fun v7 s8 => ?_) (fun j9 hj9 => ?_)
    · refine x_iconst (v := 0) dX7_within_14 rfl ?_
      exact x_sub (x_le_n (x_le_n (x_le_n x_le_e))) (hj6 0 _)
    · refine x_icmp_lt 14 dX7_within_2 (by decide) (fun _ => ?_) (fun _ => ?_)
      · exact x_sub (x_le_n (x_le_n (x_le_n x_le_e))) (hj9 () _)
      · refine x_iload_n dX7_within_5 rfl rfl ?_
        refine x_iload_n dX7_within_6 rfl rfl ?_
        refine x_icmp_gt 14 dX7_within_7 (by decide) (fun _ => ?_) (fun _ => ?_)
        · exact x_sub (x_le_n (x_le_n (x_le_n x_le_e))) (hj9 () _)
        · refine x_iconst (v := 1) dX7_within_10 rfl ?_
          refine x_goto 15 dX7_within_11 (by decide) ?_
          exact x_sub (x_le_n (x_le_n (x_le_n x_le_e))) (hj6 1 _)

theorem c_X7_isBit (a0 : Int32) (a1 : Int32) (σ : xSt) : CON κi yX7_isBit m_X7_isBit false 0 shM [.int a0, .int a1] σ (f_X7_isBit a0 a1 σ) := by
  refine x_con (L := [some (.int a0), some (.int a1)]) (by decide) rfl rfl rfl ?_
  unfold f_X7_isBit
  refine x_iload_n dX7_isBit_0 rfl rfl ?_
  refine x_iload_n dX7_isBit_1 rfl rfl ?_
  refine x_ishr dX7_isBit_2 ?_
  refine x_iconst (v := 1) dX7_isBit_3 rfl ?_
  refine x_iand dX7_isBit_4 ?_
  refine x_iconst (v := 1) dX7_isBit_5 rfl ?_
  refine x_jn 14 (fun (v1 : Int32) => [none, none]) (fun (v1 : Int32) => [.int v1]) (fun v1 s2 => ?_) (fun j3 hj3 => ?_)
  · exact x_zret dX7_isBit_14 rfl
  · refine x_icmp_ne 13 dX7_isBit_6 (by decide) (fun _ => ?_) (fun _ => ?_)
    · refine x_iconst (v := 0) dX7_isBit_13 rfl ?_
      exact x_sub (x_le_n (x_le_n x_le_e)) (hj3 0 _)
    · refine x_iconst (v := 1) dX7_isBit_9 rfl ?_
      refine x_goto 14 dX7_isBit_10 (by decide) ?_
      exact x_sub (x_le_n (x_le_n x_le_e)) (hj3 1 _)

theorem t_X7_size_4 (w0 : Int32) (k : Int32 → xSt → Option (Int32 × xSt)) (hk : ∀ (w1 : Int32) (σ : xSt), XP κi false m_X7_size 0 shM 24 [none, some (.int w1), none] [] σ (k w1 σ)) : ∀ (n : Nat) (w1 : Int32) (w2 : Int32) (σ : xSt), XP κi false m_X7_size 0 shM 4 [some (.int w0), some (.int w1), some (.int w2)] [] σ (f_X7_size_4 w0 k n w1 w2 σ) := by
  intro n
  induction n with
  | zero => intro w1 w2 σ; exact x_none
  | succ n ih =>
    intro w1 w2 σ
    rw [f_X7_size_4]
    refine x_iload_n dX7_size_4 rfl rfl ?_
    refine x_bipush (v := 16) dX7_size_5 rfl ?_
    refine x_icmp_ge 24 dX7_size_7 (by decide) (fun _ => ?_) (fun _ => ?_)
    · exact x_sub (x_le_n (x_le_s rfl (x_le_n x_le_e))) (hk _ _)
    · refine x_iload_n dX7_size_10 rfl rfl ?_
      refine x_iload_n dX7_size_11 rfl rfl ?_
      refine x_iload_n dX7_size_12 rfl rfl ?_
      refine x_ishr dX7_size_13 ?_
      refine x_iconst (v := 1) dX7_size_14 rfl ?_
      refine x_iand dX7_size_15 ?_
      refine x_iadd dX7_size_16 ?_
      refine x_istore_nB dX7_size_17 rfl rfl rfl (fun x1 => ?_)
      refine x_iinc dX7_size_18 rfl rfl rfl rfl ?_
      refine x_goto 4 dX7_size_21 (by decide) ?_
      exact x_sub (x_le_s rfl (x_le_s rfl (x_le_s rfl x_le_e))) (ih _ _ _)

theorem c_X7_size (a0 : Int32) (σ : xSt) : CON κi yX7_size m_X7_size false 0 shM [.int a0] σ (f_X7_size a0 σ) := by
  refine x_con (L := [some (.int a0), none, none]) (by decide) rfl rfl rfl ?_
  unfold f_X7_size
  refine x_iconst (v := 0) dX7_size_0 rfl ?_
  refine x_istore_n dX7_size_1 rfl rfl rfl ?_
  refine x_iconst (v := 0) dX7_size_2 rfl ?_
  refine x_istore_n dX7_size_3 rfl rfl rfl ?_
  refine x_sub (x_le_s rfl (x_le_s rfl (x_le_s rfl x_le_e))) (t_X7_size_4 _ _ (fun e2 s3 => ?_) FU _ _ _)
  refine x_iload_n dX7_size_24 rfl rfl ?_
  exact x_iret dX7_size_25 rfl

theorem t_X7_leastOf_2 (w0 : Int32) (k : Int32 → xSt → Option (Int32 × xSt)) (hk : ∀ (w1 : Int32) (σ : xSt), XP κi false m_X7_leastOf 1 shM 22 [none, some (.int w1)] [] σ (k w1 σ)) : ∀ (n : Nat) (w1 : Int32) (σ : xSt), XP κi false m_X7_leastOf 1 shM 2 [some (.int w0), some (.int w1)] [] σ (f_X7_leastOf_2 w0 k n w1 σ) := by
  intro n
  induction n with
  | zero => intro w1 σ; exact x_none
  | succ n ih =>
    intro w1 σ
    rw [f_X7_leastOf_2]
    refine x_iload_n dX7_leastOf_2 rfl rfl ?_
    refine x_bipush (v := 16) dX7_leastOf_3 rfl ?_
    refine x_icmp_ge 22 dX7_leastOf_5 (by decide) (fun _ => ?_) (fun _ => ?_)
    · exact x_sub (x_le_n (x_le_s rfl x_le_e)) (hk _ _)
    · refine x_iload_n dX7_leastOf_8 rfl rfl ?_
      refine x_iload_n dX7_leastOf_9 rfl rfl ?_
      refine x_callS2i dX7_leastOf_10 lc_RX7_43 (c_X7_isBit _ _ _) rfl rfl (fun r1 s2 => ?_)
      refine x_if_ne 22 dX7_leastOf_13 (by decide) (fun _ => ?_) (fun _ => ?_)
      · exact x_sub (x_le_n (x_le_s rfl x_le_e)) (hk _ _)
      · refine x_iinc dX7_leastOf_16 rfl rfl rfl rfl ?_
        refine x_goto 2 dX7_leastOf_19 (by decide) ?_
        exact x_sub (x_le_s rfl (x_le_s rfl x_le_e)) (ih _ _)

theorem c_X7_leastOf (a0 : Int32) (σ : xSt) : CON κi yX7_leastOf m_X7_leastOf false 1 shM [.int a0] σ (f_X7_leastOf a0 σ) := by
  refine x_con (L := [some (.int a0), none]) (by decide) rfl rfl rfl ?_
  unfold f_X7_leastOf
  refine x_iconst (v := 0) dX7_leastOf_0 rfl ?_
  refine x_istore_n dX7_leastOf_1 rfl rfl rfl ?_
  refine x_sub (x_le_s rfl (x_le_s rfl x_le_e)) (t_X7_leastOf_2 _ _ (fun e3 s4 => ?_) FU _ _)
  refine x_iload_n dX7_leastOf_22 rfl rfl ?_
  refine x_bipush (v := 16) dX7_leastOf_23 rfl ?_
  refine x_jn 33 (fun (v5 : Int32) => [none, none]) (fun (v5 : Int32) => [.int v5]) (fun v5 s6 => ?_) (fun j7 hj7 => ?_)
  · exact x_iret dX7_leastOf_33 rfl
  · refine x_icmp_ge 32 dX7_leastOf_25 (by decide) (fun _ => ?_) (fun _ => ?_)
    · refine x_iconst (v := -1) dX7_leastOf_32 rfl ?_
      exact x_sub (x_le_n (x_le_n x_le_e)) (hj7 (-1) _)
    · refine x_iload_n dX7_leastOf_28 rfl rfl ?_
      refine x_goto 33 dX7_leastOf_29 (by decide) ?_
      exact x_sub (x_le_n (x_le_n x_le_e)) (hj7 e3 _)

theorem c_X7_letter (a1 : Int32) (σ : xSt) : CON κi yX7_letter m_X7_letter false 1 shM [.ref 0, .int a1] σ (f_X7_letter a1 σ) := by
  refine x_con (L := [some (.ref 0), some (.int a1)]) (by decide) rfl rfl rfl ?_
  unfold f_X7_letter
  refine x_iload_n dX7_letter_0 rfl rfl ?_
  refine x_bipush (v := 32) dX7_letter_1 rfl ?_
  refine x_bipush (v := 126) dX7_letter_3 rfl ?_
  refine x_callS3i dX7_letter_5 lc_RX7_47 (c_X7_within _ _ _ _) rfl rfl (fun r1 s2 => ?_)
  refine x_if_ne 14 dX7_letter_8 (by decide) (fun _ => ?_) (fun _ => ?_)
  · refine x_aload_n dX7_letter_14 rfl rfl ?_
    refine x_getI dX7_letter_15 lk_RX7_51 rfl rfl ?_
    refine x_bipush (v := 20) dX7_letter_18 rfl ?_
    refine x_icmp_ne 26 dX7_letter_20 (by decide) (fun _ => ?_) (fun _ => ?_)
    · refine x_aload_n dX7_letter_26 rfl rfl ?_
      refine x_getR dX7_letter_27 lk_RX7_34 rfl rfl ?_
      refine x_aload_n dX7_letter_30 rfl rfl ?_
      refine x_getI dX7_letter_31 lk_RX7_51 rfl rfl ?_
      refine x_iload_n dX7_letter_34 rfl rfl ?_
      refine x_iastB dX7_letter_35 rfl (fun s3 => ?_)
      refine x_aload_n dX7_letter_36 rfl rfl ?_
      refine x_dup dX7_letter_37 rfl ?_
      refine x_getI dX7_letter_38 lk_RX7_51 rfl rfl ?_
      refine x_iconst (v := 1) dX7_letter_41 rfl ?_
      refine x_iadd dX7_letter_42 ?_
      refine x_putIB dX7_letter_43 lp_RX7_51 rfl rfl (fun s4 => ?_)
      refine x_aload_n dX7_letter_46 rfl rfl ?_
      refine x_getI dX7_letter_47 lk_RX7_51 rfl rfl ?_
      exact x_iret dX7_letter_50 rfl
    · refine x_bipush (v := -104) dX7_letter_23 rfl ?_
      exact x_iret dX7_letter_25 rfl
  · refine x_bipush (v := -102) dX7_letter_11 rfl ?_
    exact x_iret dX7_letter_13 rfl

theorem c_X7_blank (σ : xSt) : CON κi yX7_blank m_X7_blank false 0 shM [.ref 0] σ (f_X7_blank σ) := by
  refine x_con (L := [some (.ref 0), none]) (by decide) rfl rfl rfl ?_
  unfold f_X7_blank
  refine x_aload_n dX7_blank_0 rfl rfl ?_
  refine x_getI dX7_blank_1 lk_RX7_51 rfl rfl ?_
  refine x_istore_nB dX7_blank_4 rfl rfl rfl (fun x1 => ?_)
  refine x_aload_n dX7_blank_5 rfl rfl ?_
  refine x_iconst (v := 0) dX7_blank_6 rfl ?_
  refine x_putIB dX7_blank_7 lp_RX7_51 rfl rfl (fun s2 => ?_)
  refine x_iload_n dX7_blank_10 rfl rfl ?_
  exact x_iret dX7_blank_11 rfl
end
