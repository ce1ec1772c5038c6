section
-- ===== PART A: goes FIRST, ahead of the names: the tables' words, and 'selects' of the private methods out of them =====
/-- a private method of a class that the tables say can be made, by its rows of tables_1 -/
def lw_okq (q : MethodName × Nat) : Prop := (q.1.cls ≠ "java/lang/invoke/MethodHandle" ∧ q.1.cls ≠ "java/lang/invoke/VarHandle") ∧ Cond.instantiable q.1.cls q.2 ∈ tables_1 ∧ Cond.privateMethod q.1 ∈ tables_1 ∧ Cond.instanceMethod q.1 ∈ tables_1
theorem lw_p0 : lw_okq (⟨"PosterWall", "take", "(I)V"⟩, 13) := ⟨⟨by decide +kernel, by decide +kernel⟩, List.mem_of_getElem? (i := 15) (by decide +kernel), List.mem_of_getElem? (i := 281) (by decide +kernel), List.mem_of_getElem? (i := 282) (by decide +kernel)⟩
theorem lw_p1 : lw_okq (⟨"PosterWall$Bill", "takesLetter", "(II)Z"⟩, 6) := ⟨⟨by decide +kernel, by decide +kernel⟩, List.mem_of_getElem? (i := 32) (by decide +kernel), List.mem_of_getElem? (i := 299) (by decide +kernel), List.mem_of_getElem? (i := 300) (by decide +kernel)⟩
theorem lw_p2 : lw_okq (⟨"PosterWall", "finding", "(I)I"⟩, 13) := ⟨⟨by decide +kernel, by decide +kernel⟩, List.mem_of_getElem? (i := 15) (by decide +kernel), List.mem_of_getElem? (i := 360) (by decide +kernel), List.mem_of_getElem? (i := 361) (by decide +kernel)⟩
theorem lw_p3 : lw_okq (⟨"PosterWall", "playTold", "()V"⟩, 13) := ⟨⟨by decide +kernel, by decide +kernel⟩, List.mem_of_getElem? (i := 15) (by decide +kernel), List.mem_of_getElem? (i := 374) (by decide +kernel), List.mem_of_getElem? (i := 375) (by decide +kernel)⟩
theorem lw_p4 : lw_okq (⟨"PosterWall$Stage", "layerSeen", "(II)I"⟩, 3) := ⟨⟨by decide +kernel, by decide +kernel⟩, List.mem_of_getElem? (i := 120) (by decide +kernel), List.mem_of_getElem? (i := 399) (by decide +kernel), List.mem_of_getElem? (i := 400) (by decide +kernel)⟩
theorem lw_p5 : lw_okq (⟨"PosterWall$Stage", "keepFacts", "(III)V"⟩, 3) := ⟨⟨by decide +kernel, by decide +kernel⟩, List.mem_of_getElem? (i := 120) (by decide +kernel), List.mem_of_getElem? (i := 403) (by decide +kernel), List.mem_of_getElem? (i := 404) (by decide +kernel)⟩
theorem lw_p6 : lw_okq (⟨"PosterWall$Stage", "bleach", "()V"⟩, 3) := ⟨⟨by decide +kernel, by decide +kernel⟩, List.mem_of_getElem? (i := 120) (by decide +kernel), List.mem_of_getElem? (i := 407) (by decide +kernel), List.mem_of_getElem? (i := 408) (by decide +kernel)⟩
theorem lw_p7 : lw_okq (⟨"PosterWall$Stage", "isReadOn", "(II)Z"⟩, 3) := ⟨⟨by decide +kernel, by decide +kernel⟩, List.mem_of_getElem? (i := 120) (by decide +kernel), List.mem_of_getElem? (i := 447) (by decide +kernel), List.mem_of_getElem? (i := 448) (by decide +kernel)⟩
theorem lw_p8 : lw_okq (⟨"PosterWall", "findRip", "(I)V"⟩, 13) := ⟨⟨by decide +kernel, by decide +kernel⟩, List.mem_of_getElem? (i := 15) (by decide +kernel), List.mem_of_getElem? (i := 460) (by decide +kernel), List.mem_of_getElem? (i := 461) (by decide +kernel)⟩
theorem lw_p9 : lw_okq (⟨"PosterWall", "playAhead", "(I)V"⟩, 13) := ⟨⟨by decide +kernel, by decide +kernel⟩, List.mem_of_getElem? (i := 15) (by decide +kernel), List.mem_of_getElem? (i := 464) (by decide +kernel), List.mem_of_getElem? (i := 465) (by decide +kernel)⟩
theorem lw_p10 : lw_okq (⟨"PosterWall", "obeysTorn", "(III)Z"⟩, 13) := ⟨⟨by decide +kernel, by decide +kernel⟩, List.mem_of_getElem? (i := 15) (by decide +kernel), List.mem_of_getElem? (i := 475) (by decide +kernel), List.mem_of_getElem? (i := 476) (by decide +kernel)⟩
theorem lw_p11 : lw_okq (⟨"PosterWall", "setFound", "(III)V"⟩, 13) := ⟨⟨by decide +kernel, by decide +kernel⟩, List.mem_of_getElem? (i := 15) (by decide +kernel), List.mem_of_getElem? (i := 480) (by decide +kernel), List.mem_of_getElem? (i := 481) (by decide +kernel)⟩
theorem lw_p12 : lw_okq (⟨"PosterWall", "findPaste", "(LPosterWall$Bill;)V"⟩, 13) := ⟨⟨by decide +kernel, by decide +kernel⟩, List.mem_of_getElem? (i := 15) (by decide +kernel), List.mem_of_getElem? (i := 492) (by decide +kernel), List.mem_of_getElem? (i := 493) (by decide +kernel)⟩
theorem lw_p13 : lw_okq (⟨"PosterWall", "findStick", "(LPosterWall$Bill;)V"⟩, 13) := ⟨⟨by decide +kernel, by decide +kernel⟩, List.mem_of_getElem? (i := 15) (by decide +kernel), List.mem_of_getElem? (i := 500) (by decide +kernel), List.mem_of_getElem? (i := 501) (by decide +kernel)⟩
theorem lw_p14 : lw_okq (⟨"PosterWall", "comesOutAsSeen", "()Z"⟩, 13) := ⟨⟨by decide +kernel, by decide +kernel⟩, List.mem_of_getElem? (i := 15) (by decide +kernel), List.mem_of_getElem? (i := 524) (by decide +kernel), List.mem_of_getElem? (i := 525) (by decide +kernel)⟩
theorem lw_p15 : lw_okq (⟨"PosterWall", "thicks", "(LPosterWall$Bill;)I"⟩, 13) := ⟨⟨by decide +kernel, by decide +kernel⟩, List.mem_of_getElem? (i := 15) (by decide +kernel), List.mem_of_getElem? (i := 537) (by decide +kernel), List.mem_of_getElem? (i := 538) (by decide +kernel)⟩
def lw_privs_1 : List (MethodName × Nat) := [(⟨"PosterWall", "take", "(I)V"⟩, 13), (⟨"PosterWall$Bill", "takesLetter", "(II)Z"⟩, 6), (⟨"PosterWall", "finding", "(I)I"⟩, 13), (⟨"PosterWall", "playTold", "()V"⟩, 13), (⟨"PosterWall$Stage", "layerSeen", "(II)I"⟩, 3), (⟨"PosterWall$Stage", "keepFacts", "(III)V"⟩, 3), (⟨"PosterWall$Stage", "bleach", "()V"⟩, 3), (⟨"PosterWall$Stage", "isReadOn", "(II)Z"⟩, 3), (⟨"PosterWall", "findRip", "(I)V"⟩, 13), (⟨"PosterWall", "playAhead", "(I)V"⟩, 13), (⟨"PosterWall", "obeysTorn", "(III)Z"⟩, 13), (⟨"PosterWall", "setFound", "(III)V"⟩, 13), (⟨"PosterWall", "findPaste", "(LPosterWall$Bill;)V"⟩, 13), (⟨"PosterWall", "findStick", "(LPosterWall$Bill;)V"⟩, 13), (⟨"PosterWall", "comesOutAsSeen", "()Z"⟩, 13), (⟨"PosterWall", "thicks", "(LPosterWall$Bill;)I"⟩, 13)]
theorem lw_r1 : ∀ q ∈ lw_privs_1, lw_okq q := List.forall_mem_cons.mpr ⟨lw_p0, List.forall_mem_cons.mpr ⟨lw_p1, List.forall_mem_cons.mpr ⟨lw_p2, List.forall_mem_cons.mpr ⟨lw_p3, List.forall_mem_cons.mpr ⟨lw_p4, List.forall_mem_cons.mpr ⟨lw_p5, List.forall_mem_cons.mpr ⟨lw_p6, List.forall_mem_cons.mpr ⟨lw_p7, List.forall_mem_cons.mpr ⟨lw_p8, List.forall_mem_cons.mpr ⟨lw_p9, List.forall_mem_cons.mpr ⟨lw_p10, List.forall_mem_cons.mpr ⟨lw_p11, List.forall_mem_cons.mpr ⟨lw_p12, List.forall_mem_cons.mpr ⟨lw_p13, List.forall_mem_cons.mpr ⟨lw_p14, List.forall_mem_cons.mpr ⟨lw_p15, fun _ h => absurd h List.not_mem_nil⟩⟩⟩⟩⟩⟩⟩⟩⟩⟩⟩⟩⟩⟩⟩⟩
theorem lw_p16 : lw_okq (⟨"PosterWall", "years", "(LPosterWall$Bill;)I"⟩, 13) := ⟨⟨by decide +kernel, by decide +kernel⟩, List.mem_of_getElem? (i := 15) (by decide +kernel), List.mem_of_getElem? (i := 541) (by decide +kernel), List.mem_of_getElem? (i := 542) (by decide +kernel)⟩
theorem lw_p17 : lw_okq (⟨"PosterWall", "tallyLastDay", "()V"⟩, 13) := ⟨⟨by decide +kernel, by decide +kernel⟩, List.mem_of_getElem? (i := 15) (by decide +kernel), List.mem_of_getElem? (i := 546) (by decide +kernel), List.mem_of_getElem? (i := 547) (by decide +kernel)⟩
theorem lw_p18 : lw_okq (⟨"PosterWall", "columnToAsk", "()I"⟩, 13) := ⟨⟨by decide +kernel, by decide +kernel⟩, List.mem_of_getElem? (i := 15) (by decide +kernel), List.mem_of_getElem? (i := 554) (by decide +kernel), List.mem_of_getElem? (i := 555) (by decide +kernel)⟩
theorem lw_p19 : lw_okq (⟨"PosterWall", "greatestLike", "(I)I"⟩, 13) := ⟨⟨by decide +kernel, by decide +kernel⟩, List.mem_of_getElem? (i := 15) (by decide +kernel), List.mem_of_getElem? (i := 558) (by decide +kernel), List.mem_of_getElem? (i := 559) (by decide +kernel)⟩
theorem lw_p20 : lw_okq (⟨"PosterWall", "findShower", "(III)V"⟩, 13) := ⟨⟨by decide +kernel, by decide +kernel⟩, List.mem_of_getElem? (i := 15) (by decide +kernel), List.mem_of_getElem? (i := 568) (by decide +kernel), List.mem_of_getElem? (i := 569) (by decide +kernel)⟩
theorem lw_p21 : lw_okq (⟨"PosterWall", "obeyedFrom", "(IIII)J"⟩, 13) := ⟨⟨by decide +kernel, by decide +kernel⟩, List.mem_of_getElem? (i := 15) (by decide +kernel), List.mem_of_getElem? (i := 573) (by decide +kernel), List.mem_of_getElem? (i := 574) (by decide +kernel)⟩
theorem lw_p22 : lw_okq (⟨"PosterWall", "obeyedLater", "(II)Z"⟩, 13) := ⟨⟨by decide +kernel, by decide +kernel⟩, List.mem_of_getElem? (i := 15) (by decide +kernel), List.mem_of_getElem? (i := 577) (by decide +kernel), List.mem_of_getElem? (i := 578) (by decide +kernel)⟩
theorem lw_p23 : lw_okq (⟨"PosterWall", "obeyedBy", "(IIIII)J"⟩, 13) := ⟨⟨by decide +kernel, by decide +kernel⟩, List.mem_of_getElem? (i := 15) (by decide +kernel), List.mem_of_getElem? (i := 582) (by decide +kernel), List.mem_of_getElem? (i := 583) (by decide +kernel)⟩
theorem lw_p24 : lw_okq (⟨"PosterWall", "digestDay", "(JI)J"⟩, 13) := ⟨⟨by decide +kernel, by decide +kernel⟩, List.mem_of_getElem? (i := 15) (by decide +kernel), List.mem_of_getElem? (i := 662) (by decide +kernel), List.mem_of_getElem? (i := 663) (by decide +kernel)⟩
theorem lw_p25 : lw_okq (⟨"PosterWall", "digestBill", "(JI)J"⟩, 13) := ⟨⟨by decide +kernel, by decide +kernel⟩, List.mem_of_getElem? (i := 15) (by decide +kernel), List.mem_of_getElem? (i := 671) (by decide +kernel), List.mem_of_getElem? (i := 672) (by decide +kernel)⟩
theorem lw_p26 : lw_okq (⟨"PosterWallModel", "finds", "(I)I"⟩, 28) := ⟨⟨by decide +kernel, by decide +kernel⟩, List.mem_of_getElem? (i := 681) (by decide +kernel), List.mem_of_getElem? (i := 784) (by decide +kernel), List.mem_of_getElem? (i := 785) (by decide +kernel)⟩
theorem lw_p27 : lw_okq (⟨"PosterWallModel", "lacks", "(III)I"⟩, 28) := ⟨⟨by decide +kernel, by decide +kernel⟩, List.mem_of_getElem? (i := 681) (by decide +kernel), List.mem_of_getElem? (i := 796) (by decide +kernel), List.mem_of_getElem? (i := 797) (by decide +kernel)⟩
theorem lw_p28 : lw_okq (⟨"PosterWallModel", "readsText", "(I)I"⟩, 28) := ⟨⟨by decide +kernel, by decide +kernel⟩, List.mem_of_getElem? (i := 681) (by decide +kernel), List.mem_of_getElem? (i := 832) (by decide +kernel), List.mem_of_getElem? (i := 833) (by decide +kernel)⟩
theorem lw_p29 : lw_okq (⟨"PosterWallModel", "readsPosters", "()I"⟩, 28) := ⟨⟨by decide +kernel, by decide +kernel⟩, List.mem_of_getElem? (i := 681) (by decide +kernel), List.mem_of_getElem? (i := 836) (by decide +kernel), List.mem_of_getElem? (i := 837) (by decide +kernel)⟩
theorem lw_p30 : lw_okq (⟨"PosterWallModel", "readsRains", "()I"⟩, 28) := ⟨⟨by decide +kernel, by decide +kernel⟩, List.mem_of_getElem? (i := 681) (by decide +kernel), List.mem_of_getElem? (i := 848) (by decide +kernel), List.mem_of_getElem? (i := 849) (by decide +kernel)⟩
theorem lw_p31 : lw_okq (⟨"PosterWallModel", "dries", "(I)I"⟩, 28) := ⟨⟨by decide +kernel, by decide +kernel⟩, List.mem_of_getElem? (i := 681) (by decide +kernel), List.mem_of_getElem? (i := 852) (by decide +kernel), List.mem_of_getElem? (i := 853) (by decide +kernel)⟩
def lw_privs_2 : List (MethodName × Nat) := [(⟨"PosterWall", "years", "(LPosterWall$Bill;)I"⟩, 13), (⟨"PosterWall", "tallyLastDay", "()V"⟩, 13), (⟨"PosterWall", "columnToAsk", "()I"⟩, 13), (⟨"PosterWall", "greatestLike", "(I)I"⟩, 13), (⟨"PosterWall", "findShower", "(III)V"⟩, 13), (⟨"PosterWall", "obeyedFrom", "(IIII)J"⟩, 13), (⟨"PosterWall", "obeyedLater", "(II)Z"⟩, 13), (⟨"PosterWall", "obeyedBy", "(IIIII)J"⟩, 13), (⟨"PosterWall", "digestDay", "(JI)J"⟩, 13), (⟨"PosterWall", "digestBill", "(JI)J"⟩, 13), (⟨"PosterWallModel", "finds", "(I)I"⟩, 28), (⟨"PosterWallModel", "lacks", "(III)I"⟩, 28), (⟨"PosterWallModel", "readsText", "(I)I"⟩, 28), (⟨"PosterWallModel", "readsPosters", "()I"⟩, 28), (⟨"PosterWallModel", "readsRains", "()I"⟩, 28), (⟨"PosterWallModel", "dries", "(I)I"⟩, 28)]
theorem lw_r2 : ∀ q ∈ lw_privs_2, lw_okq q := List.forall_mem_cons.mpr ⟨lw_p16, List.forall_mem_cons.mpr ⟨lw_p17, List.forall_mem_cons.mpr ⟨lw_p18, List.forall_mem_cons.mpr ⟨lw_p19, List.forall_mem_cons.mpr ⟨lw_p20, List.forall_mem_cons.mpr ⟨lw_p21, List.forall_mem_cons.mpr ⟨lw_p22, List.forall_mem_cons.mpr ⟨lw_p23, List.forall_mem_cons.mpr ⟨lw_p24, List.forall_mem_cons.mpr ⟨lw_p25, List.forall_mem_cons.mpr ⟨lw_p26, List.forall_mem_cons.mpr ⟨lw_p27, List.forall_mem_cons.mpr ⟨lw_p28, List.forall_mem_cons.mpr ⟨lw_p29, List.forall_mem_cons.mpr ⟨lw_p30, List.forall_mem_cons.mpr ⟨lw_p31, fun _ h => absurd h List.not_mem_nil⟩⟩⟩⟩⟩⟩⟩⟩⟩⟩⟩⟩⟩⟩⟩⟩
theorem lw_p32 : lw_okq (⟨"PosterWallModel", "readsLaw", "()I"⟩, 28) := ⟨⟨by decide +kernel, by decide +kernel⟩, List.mem_of_getElem? (i := 681) (by decide +kernel), List.mem_of_getElem? (i := 856) (by decide +kernel), List.mem_of_getElem? (i := 857) (by decide +kernel)⟩
theorem lw_p33 : lw_okq (⟨"PosterWallModel", "lawless", "(I)I"⟩, 28) := ⟨⟨by decide +kernel, by decide +kernel⟩, List.mem_of_getElem? (i := 681) (by decide +kernel), List.mem_of_getElem? (i := 860) (by decide +kernel), List.mem_of_getElem? (i := 861) (by decide +kernel)⟩
theorem lw_p34 : lw_okq (⟨"PosterWallModel", "isPoster", "(I)Z"⟩, 28) := ⟨⟨by decide +kernel, by decide +kernel⟩, List.mem_of_getElem? (i := 681) (by decide +kernel), List.mem_of_getElem? (i := 868) (by decide +kernel), List.mem_of_getElem? (i := 869) (by decide +kernel)⟩
theorem lw_p35 : lw_okq (⟨"PosterWallModel", "posterBy", "(II)I"⟩, 28) := ⟨⟨by decide +kernel, by decide +kernel⟩, List.mem_of_getElem? (i := 681) (by decide +kernel), List.mem_of_getElem? (i := 873) (by decide +kernel), List.mem_of_getElem? (i := 874) (by decide +kernel)⟩
theorem lw_p36 : lw_okq (⟨"PosterWallModel", "find", "()V"⟩, 28) := ⟨⟨by decide +kernel, by decide +kernel⟩, List.mem_of_getElem? (i := 681) (by decide +kernel), List.mem_of_getElem? (i := 910) (by decide +kernel), List.mem_of_getElem? (i := 911) (by decide +kernel)⟩
theorem lw_p37 : lw_okq (⟨"PosterWallModel", "lives", "()V"⟩, 28) := ⟨⟨by decide +kernel, by decide +kernel⟩, List.mem_of_getElem? (i := 681) (by decide +kernel), List.mem_of_getElem? (i := 914) (by decide +kernel), List.mem_of_getElem? (i := 915) (by decide +kernel)⟩
theorem lw_p38 : lw_okq (⟨"PosterWallModel", "tearsOff", "(I)V"⟩, 28) := ⟨⟨by decide +kernel, by decide +kernel⟩, List.mem_of_getElem? (i := 681) (by decide +kernel), List.mem_of_getElem? (i := 918) (by decide +kernel), List.mem_of_getElem? (i := 919) (by decide +kernel)⟩
theorem lw_p39 : lw_okq (⟨"PosterWallModel", "isTorn", "(I)V"⟩, 28) := ⟨⟨by decide +kernel, by decide +kernel⟩, List.mem_of_getElem? (i := 681) (by decide +kernel), List.mem_of_getElem? (i := 925) (by decide +kernel), List.mem_of_getElem? (i := 926) (by decide +kernel)⟩
theorem lw_p40 : lw_okq (⟨"PosterWallModel", "sticks", "(I)V"⟩, 28) := ⟨⟨by decide +kernel, by decide +kernel⟩, List.mem_of_getElem? (i := 681) (by decide +kernel), List.mem_of_getElem? (i := 929) (by decide +kernel), List.mem_of_getElem? (i := 930) (by decide +kernel)⟩
theorem lw_p41 : lw_okq (⟨"PosterWallModel", "reads", "(II)V"⟩, 28) := ⟨⟨by decide +kernel, by decide +kernel⟩, List.mem_of_getElem? (i := 681) (by decide +kernel), List.mem_of_getElem? (i := 933) (by decide +kernel), List.mem_of_getElem? (i := 934) (by decide +kernel)⟩
theorem lw_p42 : lw_okq (⟨"PosterWallModel", "thickOf", "(II)I"⟩, 28) := ⟨⟨by decide +kernel, by decide +kernel⟩, List.mem_of_getElem? (i := 681) (by decide +kernel), List.mem_of_getElem? (i := 937) (by decide +kernel), List.mem_of_getElem? (i := 938) (by decide +kernel)⟩
theorem lw_p43 : lw_okq (⟨"PosterWallModel", "bleaches", "(I)V"⟩, 28) := ⟨⟨by decide +kernel, by decide +kernel⟩, List.mem_of_getElem? (i := 681) (by decide +kernel), List.mem_of_getElem? (i := 941) (by decide +kernel), List.mem_of_getElem? (i := 942) (by decide +kernel)⟩
theorem lw_p44 : lw_okq (⟨"PosterWallModel", "isObeyed", "(I)Z"⟩, 28) := ⟨⟨by decide +kernel, by decide +kernel⟩, List.mem_of_getElem? (i := 681) (by decide +kernel), List.mem_of_getElem? (i := 952) (by decide +kernel), List.mem_of_getElem? (i := 953) (by decide +kernel)⟩
theorem lw_p45 : lw_okq (⟨"PosterWallModel", "daysBy", "(I)I"⟩, 28) := ⟨⟨by decide +kernel, by decide +kernel⟩, List.mem_of_getElem? (i := 681) (by decide +kernel), List.mem_of_getElem? (i := 963) (by decide +kernel), List.mem_of_getElem? (i := 964) (by decide +kernel)⟩
theorem lw_p46 : lw_okq (⟨"PosterWallModel", "unreadNow", "()I"⟩, 28) := ⟨⟨by decide +kernel, by decide +kernel⟩, List.mem_of_getElem? (i := 681) (by decide +kernel), List.mem_of_getElem? (i := 971) (by decide +kernel), List.mem_of_getElem? (i := 972) (by decide +kernel)⟩
theorem lw_p47 : lw_okq (⟨"PosterWallModel", "readOf", "(I)I"⟩, 28) := ⟨⟨by decide +kernel, by decide +kernel⟩, List.mem_of_getElem? (i := 681) (by decide +kernel), List.mem_of_getElem? (i := 975) (by decide +kernel), List.mem_of_getElem? (i := 976) (by decide +kernel)⟩
def lw_privs_3 : List (MethodName × Nat) := [(⟨"PosterWallModel", "readsLaw", "()I"⟩, 28), (⟨"PosterWallModel", "lawless", "(I)I"⟩, 28), (⟨"PosterWallModel", "isPoster", "(I)Z"⟩, 28), (⟨"PosterWallModel", "posterBy", "(II)I"⟩, 28), (⟨"PosterWallModel", "find", "()V"⟩, 28), (⟨"PosterWallModel", "lives", "()V"⟩, 28), (⟨"PosterWallModel", "tearsOff", "(I)V"⟩, 28), (⟨"PosterWallModel", "isTorn", "(I)V"⟩, 28), (⟨"PosterWallModel", "sticks", "(I)V"⟩, 28), (⟨"PosterWallModel", "reads", "(II)V"⟩, 28), (⟨"PosterWallModel", "thickOf", "(II)I"⟩, 28), (⟨"PosterWallModel", "bleaches", "(I)V"⟩, 28), (⟨"PosterWallModel", "isObeyed", "(I)Z"⟩, 28), (⟨"PosterWallModel", "daysBy", "(I)I"⟩, 28), (⟨"PosterWallModel", "unreadNow", "()I"⟩, 28), (⟨"PosterWallModel", "readOf", "(I)I"⟩, 28)]
theorem lw_r3 : ∀ q ∈ lw_privs_3, lw_okq q := List.forall_mem_cons.mpr ⟨lw_p32, List.forall_mem_cons.mpr ⟨lw_p33, List.forall_mem_cons.mpr ⟨lw_p34, List.forall_mem_cons.mpr ⟨lw_p35, List.forall_mem_cons.mpr ⟨lw_p36, List.forall_mem_cons.mpr ⟨lw_p37, List.forall_mem_cons.mpr ⟨lw_p38, List.forall_mem_cons.mpr ⟨lw_p39, List.forall_mem_cons.mpr ⟨lw_p40, List.forall_mem_cons.mpr ⟨lw_p41, List.forall_mem_cons.mpr ⟨lw_p42, List.forall_mem_cons.mpr ⟨lw_p43, List.forall_mem_cons.mpr ⟨lw_p44, List.forall_mem_cons.mpr ⟨lw_p45, List.forall_mem_cons.mpr ⟨lw_p46, List.forall_mem_cons.mpr ⟨lw_p47, fun _ h => absurd h List.not_mem_nil⟩⟩⟩⟩⟩⟩⟩⟩⟩⟩⟩⟩⟩⟩⟩⟩
theorem lw_p48 : lw_okq (⟨"PosterWallModel", "oftenNow", "()I"⟩, 28) := ⟨⟨by decide +kernel, by decide +kernel⟩, List.mem_of_getElem? (i := 681) (by decide +kernel), List.mem_of_getElem? (i := 983) (by decide +kernel), List.mem_of_getElem? (i := 984) (by decide +kernel)⟩
theorem lw_p49 : lw_okq (⟨"PosterWallModel", "ripOf", "(II)I"⟩, 28) := ⟨⟨by decide +kernel, by decide +kernel⟩, List.mem_of_getElem? (i := 681) (by decide +kernel), List.mem_of_getElem? (i := 992) (by decide +kernel), List.mem_of_getElem? (i := 993) (by decide +kernel)⟩
theorem lw_p50 : lw_okq (⟨"PosterWallModel", "isObeyedBy", "(III)Z"⟩, 28) := ⟨⟨by decide +kernel, by decide +kernel⟩, List.mem_of_getElem? (i := 681) (by decide +kernel), List.mem_of_getElem? (i := 996) (by decide +kernel), List.mem_of_getElem? (i := 997) (by decide +kernel)⟩
theorem lw_p51 : lw_okq (⟨"PosterWallModel", "wetOf", "(I)I"⟩, 28) := ⟨⟨by decide +kernel, by decide +kernel⟩, List.mem_of_getElem? (i := 681) (by decide +kernel), List.mem_of_getElem? (i := 1004) (by decide +kernel), List.mem_of_getElem? (i := 1005) (by decide +kernel)⟩
theorem lw_p52 : lw_okq (⟨"PosterWallModel", "pasteOf", "(II)I"⟩, 28) := ⟨⟨by decide +kernel, by decide +kernel⟩, List.mem_of_getElem? (i := 681) (by decide +kernel), List.mem_of_getElem? (i := 1012) (by decide +kernel), List.mem_of_getElem? (i := 1013) (by decide +kernel)⟩
theorem lw_p53 : lw_okq (⟨"PosterWallModel", "stickOf", "(II)I"⟩, 28) := ⟨⟨by decide +kernel, by decide +kernel⟩, List.mem_of_getElem? (i := 681) (by decide +kernel), List.mem_of_getElem? (i := 1020) (by decide +kernel), List.mem_of_getElem? (i := 1021) (by decide +kernel)⟩
theorem lw_p54 : lw_okq (⟨"PosterWallModel", "neverNow", "()I"⟩, 28) := ⟨⟨by decide +kernel, by decide +kernel⟩, List.mem_of_getElem? (i := 681) (by decide +kernel), List.mem_of_getElem? (i := 1036) (by decide +kernel), List.mem_of_getElem? (i := 1037) (by decide +kernel)⟩
theorem lw_p55 : lw_okq (⟨"PosterWallModel", "isSeen", "()Z"⟩, 28) := ⟨⟨by decide +kernel, by decide +kernel⟩, List.mem_of_getElem? (i := 681) (by decide +kernel), List.mem_of_getElem? (i := 1040) (by decide +kernel), List.mem_of_getElem? (i := 1041) (by decide +kernel)⟩
theorem lw_p56 : lw_okq (⟨"PosterWallModel", "wasOf", "(II)I"⟩, 28) := ⟨⟨by decide +kernel, by decide +kernel⟩, List.mem_of_getElem? (i := 681) (by decide +kernel), List.mem_of_getElem? (i := 1048) (by decide +kernel), List.mem_of_getElem? (i := 1049) (by decide +kernel)⟩
theorem lw_p57 : lw_okq (⟨"PosterWallModel", "thicksOf", "(I)I"⟩, 28) := ⟨⟨by decide +kernel, by decide +kernel⟩, List.mem_of_getElem? (i := 681) (by decide +kernel), List.mem_of_getElem? (i := 1052) (by decide +kernel), List.mem_of_getElem? (i := 1053) (by decide +kernel)⟩
theorem lw_p58 : lw_okq (⟨"PosterWallModel", "yearsOf", "(I)I"⟩, 28) := ⟨⟨by decide +kernel, by decide +kernel⟩, List.mem_of_getElem? (i := 681) (by decide +kernel), List.mem_of_getElem? (i := 1056) (by decide +kernel), List.mem_of_getElem? (i := 1057) (by decide +kernel)⟩
theorem lw_p59 : lw_okq (⟨"PosterWallModel", "askOf", "(I)I"⟩, 28) := ⟨⟨by decide +kernel, by decide +kernel⟩, List.mem_of_getElem? (i := 681) (by decide +kernel), List.mem_of_getElem? (i := 1064) (by decide +kernel), List.mem_of_getElem? (i := 1065) (by decide +kernel)⟩
theorem lw_p60 : lw_okq (⟨"PosterWallModel", "showerOf", "(IIII)J"⟩, 28) := ⟨⟨by decide +kernel, by decide +kernel⟩, List.mem_of_getElem? (i := 681) (by decide +kernel), List.mem_of_getElem? (i := 1074) (by decide +kernel), List.mem_of_getElem? (i := 1075) (by decide +kernel)⟩
theorem lw_p61 : lw_okq (⟨"PosterWallModel", "seasonOf", "(III)I"⟩, 28) := ⟨⟨by decide +kernel, by decide +kernel⟩, List.mem_of_getElem? (i := 681) (by decide +kernel), List.mem_of_getElem? (i := 1090) (by decide +kernel), List.mem_of_getElem? (i := 1091) (by decide +kernel)⟩
theorem lw_p62 : lw_okq (⟨"PosterWallModel", "lot", "(I)I"⟩, 28) := ⟨⟨by decide +kernel, by decide +kernel⟩, List.mem_of_getElem? (i := 681) (by decide +kernel), List.mem_of_getElem? (i := 1094) (by decide +kernel), List.mem_of_getElem? (i := 1095) (by decide +kernel)⟩
theorem lw_p63 : lw_okq (⟨"PosterWallModel", "letters", "()I"⟩, 28) := ⟨⟨by decide +kernel, by decide +kernel⟩, List.mem_of_getElem? (i := 681) (by decide +kernel), List.mem_of_getElem? (i := 1113) (by decide +kernel), List.mem_of_getElem? (i := 1114) (by decide +kernel)⟩
def lw_privs_4 : List (MethodName × Nat) := [(⟨"PosterWallModel", "oftenNow", "()I"⟩, 28), (⟨"PosterWallModel", "ripOf", "(II)I"⟩, 28), (⟨"PosterWallModel", "isObeyedBy", "(III)Z"⟩, 28), (⟨"PosterWallModel", "wetOf", "(I)I"⟩, 28), (⟨"PosterWallModel", "pasteOf", "(II)I"⟩, 28), (⟨"PosterWallModel", "stickOf", "(II)I"⟩, 28), (⟨"PosterWallModel", "neverNow", "()I"⟩, 28), (⟨"PosterWallModel", "isSeen", "()Z"⟩, 28), (⟨"PosterWallModel", "wasOf", "(II)I"⟩, 28), (⟨"PosterWallModel", "thicksOf", "(I)I"⟩, 28), (⟨"PosterWallModel", "yearsOf", "(I)I"⟩, 28), (⟨"PosterWallModel", "askOf", "(I)I"⟩, 28), (⟨"PosterWallModel", "showerOf", "(IIII)J"⟩, 28), (⟨"PosterWallModel", "seasonOf", "(III)I"⟩, 28), (⟨"PosterWallModel", "lot", "(I)I"⟩, 28), (⟨"PosterWallModel", "letters", "()I"⟩, 28)]
theorem lw_r4 : ∀ q ∈ lw_privs_4, lw_okq q := List.forall_mem_cons.mpr ⟨lw_p48, List.forall_mem_cons.mpr ⟨lw_p49, List.forall_mem_cons.mpr ⟨lw_p50, List.forall_mem_cons.mpr ⟨lw_p51, List.forall_mem_cons.mpr ⟨lw_p52, List.forall_mem_cons.mpr ⟨lw_p53, List.forall_mem_cons.mpr ⟨lw_p54, List.forall_mem_cons.mpr ⟨lw_p55, List.forall_mem_cons.mpr ⟨lw_p56, List.forall_mem_cons.mpr ⟨lw_p57, List.forall_mem_cons.mpr ⟨lw_p58, List.forall_mem_cons.mpr ⟨lw_p59, List.forall_mem_cons.mpr ⟨lw_p60, List.forall_mem_cons.mpr ⟨lw_p61, List.forall_mem_cons.mpr ⟨lw_p62, List.forall_mem_cons.mpr ⟨lw_p63, fun _ h => absurd h List.not_mem_nil⟩⟩⟩⟩⟩⟩⟩⟩⟩⟩⟩⟩⟩⟩⟩⟩
theorem lw_p64 : lw_okq (⟨"PosterWallModel", "tellsDay", "(JI)J"⟩, 28) := ⟨⟨by decide +kernel, by decide +kernel⟩, List.mem_of_getElem? (i := 681) (by decide +kernel), List.mem_of_getElem? (i := 1124) (by decide +kernel), List.mem_of_getElem? (i := 1125) (by decide +kernel)⟩
theorem lw_p65 : lw_okq (⟨"PosterWallModel", "tellsPoster", "(JI)J"⟩, 28) := ⟨⟨by decide +kernel, by decide +kernel⟩, List.mem_of_getElem? (i := 681) (by decide +kernel), List.mem_of_getElem? (i := 1128) (by decide +kernel), List.mem_of_getElem? (i := 1129) (by decide +kernel)⟩
def lw_privs_5 : List (MethodName × Nat) := [(⟨"PosterWallModel", "tellsDay", "(JI)J"⟩, 28), (⟨"PosterWallModel", "tellsPoster", "(JI)J"⟩, 28)]
theorem lw_r5 : ∀ q ∈ lw_privs_5, lw_okq q := List.forall_mem_cons.mpr ⟨lw_p64, List.forall_mem_cons.mpr ⟨lw_p65, fun _ h => absurd h List.not_mem_nil⟩⟩
def lw_privs : List (MethodName × Nat) := lw_privs_1 ++ (lw_privs_2 ++ (lw_privs_3 ++ (lw_privs_4 ++ (lw_privs_5))))
def lw_tbl : List Cond := k2_sels lw_privs ++ tables_1
theorem lw_privs_ok : ∀ q ∈ lw_privs, lw_okq q := by
  show ∀ q ∈ lw_privs_1 ++ (lw_privs_2 ++ (lw_privs_3 ++ (lw_privs_4 ++ (lw_privs_5)))), lw_okq q
  exact List.forall_mem_append.mpr ⟨lw_r1, List.forall_mem_append.mpr ⟨lw_r2, List.forall_mem_append.mpr ⟨lw_r3, List.forall_mem_append.mpr ⟨lw_r4, lw_r5⟩⟩⟩⟩
end
section
def RB : String := "PosterWall$Bill"
def TB : u_T := fun k => match k with
  | 0 => ("PosterWall$Bill", "word", "[I", true)
  | 1 => ("PosterWall$Bill", "day", "I", false)
  | 2 => ("PosterWall$Bill", "column", "I", false)
  | 3 => ("PosterWall$Bill", "colour", "I", false)
  | 4 => ("PosterWall$Bill", "thick", "I", false)
  | _ => ("PosterWall$Bill", "size", "I", false)
def RP : String := "PosterWall$Pile"
def TP : u_T := fun k => match k with
  | 0 => ("PosterWall$Pile", "heights", "[I", true)
  | 1 => ("PosterWall$Pile", "owners", "[I", true)
  | _ => ("PosterWall$Pile", "inks", "[I", true)
def RN : String := "PosterWall$Plan"
def TN : u_T := fun k => match k with
  | 0 => ("PosterWall$Plan", "bills", "[LPosterWall$Bill;", true)
  | 1 => ("PosterWall$Plan", "rains", "[I", true)
  | 2 => ("PosterWall$Plan", "law", "[I", true)
  | 3 => ("PosterWall$Plan", "tearDays", "[I", true)
  | 4 => ("PosterWall$Plan", "tearColumns", "[I", true)
  | 5 => ("PosterWall$Plan", "billCount", "I", false)
  | 6 => ("PosterWall$Plan", "rainCount", "I", false)
  | 7 => ("PosterWall$Plan", "lawCount", "I", false)
  | 8 => ("PosterWall$Plan", "tearCount", "I", false)
  | _ => ("PosterWall$Plan", "spared", "I", false)
def RR : String := "PosterWall$Row"
def TR : u_T := fun k => match k with
  | 0 => ("PosterWall$Row", "items", "[I", true)
  | 1 => ("PosterWall$Row", "lost", "Z", false)
  | 2 => ("PosterWall$Row", "form", "I", false)
  | _ => ("PosterWall$Row", "size", "I", false)
def RS : String := "PosterWall$Sights"
def TS : u_T := fun k => match k with
  | 0 => ("PosterWall$Sights", "days", "[I", true)
  | 1 => ("PosterWall$Sights", "columns", "[I", true)
  | 2 => ("PosterWall$Sights", "letters", "[I", true)
  | _ => ("PosterWall$Sights", "count", "I", false)
def RT : String := "PosterWall$Stage"
def TT : u_T := fun k => match k with
  | 0 => ("PosterWall$Stage", "plan", "LPosterWall$Plan;", true)
  | 1 => ("PosterWall$Stage", "pile", "LPosterWall$Pile;", true)
  | _ => ("PosterWall$Stage", "facts", "[I", true)
def RX : String := "PosterWall$Text"
def TX : u_T := fun k => match k with
  | 0 => ("PosterWall$Text", "bytes", "[I", true)
  | 1 => ("PosterWall$Text", "size", "I", false)
  | _ => ("PosterWall$Text", "fault", "I", false)
def RW : String := "PosterWall"
def TW : u_T := fun k => match k with
  | 0 => ("PosterWall", "texts", "[LPosterWall$Text;", true)
  | 1 => ("PosterWall", "plan", "LPosterWall$Plan;", true)
  | 2 => ("PosterWall", "told", "LPosterWall$Stage;", true)
  | 3 => ("PosterWall", "trial", "LPosterWall$Stage;", true)
  | 4 => ("PosterWall", "saved", "[LPosterWall$Pile;", true)
  | 5 => ("PosterWall", "sights", "LPosterWall$Sights;", true)
  | 6 => ("PosterWall", "rows", "[LPosterWall$Row;", true)
  | 7 => ("PosterWall", "otherRains", "[I", true)
  | 8 => ("PosterWall", "tally", "[I", true)
  | 9 => ("PosterWall", "found", "[I", true)
  | 10 => ("PosterWall", "chance", "[J", true)
  | 11 => ("PosterWall", "toldIsPlayed", "Z", false)
  | _ => ("PosterWall", "latestFinding", "I", false)
def RM : String := "PosterWallModel"
def TM : u_T := fun k => match k with
  | 0 => ("PosterWallModel", "forms", "[I", true)
  | 1 => ("PosterWallModel", "sizes", "[I", true)
  | 2 => ("PosterWallModel", "items", "[I", true)
  | 3 => ("PosterWallModel", "moved", "[I", true)
  | 4 => ("PosterWallModel", "latest", "I", false)
  | 5 => ("PosterWallModel", "bytes", "[I", true)
  | 6 => ("PosterWallModel", "typed", "[I", true)
  | 7 => ("PosterWallModel", "posters", "I", false)
  | 8 => ("PosterWallModel", "poster", "[I", true)
  | 9 => ("PosterWallModel", "letter", "[I", true)
  | 10 => ("PosterWallModel", "rains", "I", false)
  | 11 => ("PosterWallModel", "rain", "[I", true)
  | 12 => ("PosterWallModel", "law", "[I", true)
  | 13 => ("PosterWallModel", "tears", "I", false)
  | 14 => ("PosterWallModel", "tear", "[I", true)
  | 15 => ("PosterWallModel", "gone", "I", false)
  | 16 => ("PosterWallModel", "oddDay", "I", false)
  | 17 => ("PosterWallModel", "oddFirst", "I", false)
  | 18 => ("PosterWallModel", "oddSecond", "I", false)
  | 19 => ("PosterWallModel", "layers", "[I", true)
  | 20 => ("PosterWallModel", "lies", "[I", true)
  | 21 => ("PosterWallModel", "ink", "[I", true)
  | 22 => ("PosterWallModel", "kept", "[I", true)
  | 23 => ("PosterWallModel", "sights", "I", false)
  | 24 => ("PosterWallModel", "sight", "[I", true)
  | 25 => ("PosterWallModel", "alike", "[I", true)
  | 26 => ("PosterWallModel", "told", "[I", true)
  | _ => ("PosterWallModel", "drawn", "I", false)
abbrev wCl : List vw_C := [(RB, TB, 6), (RP, TP, 3), (RN, TN, 10), (RR, TR, 4), (RS, TS, 4), (RT, TT, 3), (RX, TX, 3), (RW, TW, 13), (RM, TM, 28)]
/-- how many of a family there are: objects by class 0 to 8, arrays from 9 on -/
def NI (c : Nat) : Nat := match c with
  | 0 => 8
  | 1 => 12
  | 2 => 1
  | 3 => 4
  | 4 => 1
  | 5 => 2
  | 6 => 3
  | 7 => 1
  | 8 => 1
  | 9 => 8
  | 10 => 12
  | 11 => 12
  | 12 => 12
  | 13 => 1
  | 14 => 1
  | 15 => 1
  | 16 => 1
  | 17 => 1
  | 18 => 4
  | 19 => 1
  | 20 => 1
  | 21 => 1
  | 22 => 2
  | 23 => 3
  | 24 => 1
  | 25 => 1
  | 26 => 1
  | 27 => 1
  | 28 => 1
  | 29 => 1
  | 30 => 1
  | 31 => 1
  | 32 => 1
  | 33 => 1
  | 34 => 1
  | 35 => 1
  | 36 => 1
  | 37 => 1
  | 38 => 1
  | 39 => 1
  | 40 => 1
  | 41 => 1
  | 42 => 1
  | 43 => 1
  | 44 => 1
  | 45 => 1
  | 46 => 1
  | 47 => 1
  | 48 => 1
  | _ => 0
def NF (c : Nat) : Nat := match c with
  | 0 => 6
  | 1 => 3
  | 2 => 10
  | 3 => 4
  | 4 => 4
  | 5 => 3
  | 6 => 3
  | 7 => 13
  | 8 => 28
  | _ => 0
/-- what a field of an object refers to: a family, and which of it (none: the same number) -/
def fk (c k : Nat) : Option (Nat × Option Nat) := match c, k with
  | 0, 0 => some (9, none)
  | 1, 0 => some (10, none)
  | 1, 1 => some (11, none)
  | 1, 2 => some (12, none)
  | 2, 0 => some (13, some 0)
  | 2, 1 => some (14, some 0)
  | 2, 2 => some (15, some 0)
  | 2, 3 => some (16, some 0)
  | 2, 4 => some (17, some 0)
  | 3, 0 => some (18, none)
  | 4, 0 => some (19, some 0)
  | 4, 1 => some (20, some 0)
  | 4, 2 => some (21, some 0)
  | 5, 0 => some (2, some 0)
  | 5, 1 => some (1, none)
  | 5, 2 => some (22, none)
  | 6, 0 => some (23, none)
  | 7, 0 => some (24, some 0)
  | 7, 1 => some (2, some 0)
  | 7, 2 => some (5, some 0)
  | 7, 3 => some (5, some 1)
  | 7, 4 => some (25, some 0)
  | 7, 5 => some (4, some 0)
  | 7, 6 => some (26, some 0)
  | 7, 7 => some (27, some 0)
  | 7, 8 => some (28, some 0)
  | 7, 9 => some (29, some 0)
  | 7, 10 => some (30, some 0)
  | 8, 0 => some (31, some 0)
  | 8, 1 => some (32, some 0)
  | 8, 2 => some (33, some 0)
  | 8, 3 => some (34, some 0)
  | 8, 5 => some (35, some 0)
  | 8, 6 => some (36, some 0)
  | 8, 8 => some (37, some 0)
  | 8, 9 => some (38, some 0)
  | 8, 11 => some (39, some 0)
  | 8, 12 => some (40, some 0)
  | 8, 14 => some (41, some 0)
  | 8, 19 => some (42, some 0)
  | 8, 20 => some (43, some 0)
  | 8, 21 => some (44, some 0)
  | 8, 22 => some (45, some 0)
  | 8, 24 => some (46, some 0)
  | 8, 25 => some (47, some 0)
  | 8, 26 => some (48, some 0)
  | _, _ => none
/-- an array of references: the family of its items, the number of the first, its length, the class of arrays -/
def ra (c : Nat) : Option (Nat × Nat × Nat × Nat) := match c with
  | 13 => some (0, 0, 8, 5)
  | 24 => some (6, 0, 3, 2)
  | 25 => some (1, 2, 10, 3)
  | 26 => some (3, 0, 4, 4)
  | _ => none
/-- the length of an array of ints -/
def ln (c i : Nat) : Nat := match c with
  | 9 => 4
  | 10 => 6
  | 11 => 48
  | 12 => 48
  | 14 => 20
  | 15 => 6
  | 16 => 10
  | 17 => 10
  | 18 => 60
  | 19 => 8
  | 20 => 8
  | 21 => 8
  | 22 => 720
  | 23 => (if i = 0 then 79 else if i = 1 then 20 else 6)
  | 27 => 20
  | 28 => 54
  | 29 => 3
  | 31 => 4
  | 32 => 4
  | 33 => 240
  | 34 => 60
  | 35 => 240
  | 36 => 3
  | 37 => 40
  | 38 => 32
  | 39 => 20
  | 40 => 6
  | 41 => 16
  | 42 => 6
  | 43 => 48
  | 44 => 48
  | 45 => 720
  | 46 => 24
  | 47 => 54
  | 48 => 20
  | _ => 0
/-- is it a family of int arrays -/
def ia (c : Nat) : Bool := match c with
  | 9 => true
  | 10 => true
  | 11 => true
  | 12 => true
  | 14 => true
  | 15 => true
  | 16 => true
  | 17 => true
  | 18 => true
  | 19 => true
  | 20 => true
  | 21 => true
  | 22 => true
  | 23 => true
  | 27 => true
  | 28 => true
  | 29 => true
  | 31 => true
  | 32 => true
  | 33 => true
  | 34 => true
  | 35 => true
  | 36 => true
  | 37 => true
  | 38 => true
  | 39 => true
  | 40 => true
  | 41 => true
  | 42 => true
  | 43 => true
  | 44 => true
  | 45 => true
  | 46 => true
  | 47 => true
  | 48 => true
  | _ => false
def CI : List (Nat × Nat) := [(0, 0), (0, 1), (0, 2), (0, 3), (0, 4), (0, 5), (0, 6), (0, 7), (1, 0), (1, 1), (1, 2), (1, 3), (1, 4), (1, 5), (1, 6), (1, 7), (1, 8), (1, 9), (1, 10), (1, 11), (2, 0), (3, 0), (3, 1), (3, 2), (3, 3), (4, 0), (5, 0), (5, 1), (6, 0), (6, 1), (6, 2), (7, 0), (8, 0), (9, 0), (9, 1), (9, 2), (9, 3), (9, 4), (9, 5), (9, 6), (9, 7), (10, 0), (10, 1), (10, 2), (10, 3), (10, 4), (10, 5), (10, 6), (10, 7), (10, 8), (10, 9), (10, 10), (10, 11), (11, 0), (11, 1), (11, 2), (11, 3), (11, 4), (11, 5), (11, 6), (11, 7), (11, 8), (11, 9), (11, 10), (11, 11), (12, 0), (12, 1), (12, 2), (12, 3), (12, 4), (12, 5), (12, 6), (12, 7), (12, 8), (12, 9), (12, 10), (12, 11), (13, 0), (14, 0), (15, 0), (16, 0), (17, 0), (18, 0), (18, 1), (18, 2), (18, 3), (19, 0), (20, 0), (21, 0), (22, 0), (22, 1), (23, 0), (23, 1), (23, 2), (24, 0), (25, 0), (26, 0), (27, 0), (28, 0), (29, 0), (30, 0), (31, 0), (32, 0), (33, 0), (34, 0), (35, 0), (36, 0), (37, 0), (38, 0), (39, 0), (40, 0), (41, 0), (42, 0), (43, 0), (44, 0), (45, 0), (46, 0), (47, 0), (48, 0)]
def off (c : Nat) : Nat := match c with
  | 0 => 0
  | 1 => 8
  | 2 => 20
  | 3 => 21
  | 4 => 25
  | 5 => 26
  | 6 => 28
  | 7 => 31
  | 8 => 32
  | 9 => 33
  | 10 => 41
  | 11 => 53
  | 12 => 65
  | 13 => 77
  | 14 => 78
  | 15 => 79
  | 16 => 80
  | 17 => 81
  | 18 => 82
  | 19 => 86
  | 20 => 87
  | 21 => 88
  | 22 => 89
  | 23 => 91
  | 24 => 94
  | 25 => 95
  | 26 => 96
  | 27 => 97
  | 28 => 98
  | 29 => 99
  | 30 => 100
  | 31 => 101
  | 32 => 102
  | 33 => 103
  | 34 => 104
  | 35 => 105
  | 36 => 106
  | 37 => 107
  | 38 => 108
  | 39 => 109
  | 40 => 110
  | 41 => 111
  | 42 => 112
  | 43 => 113
  | 44 => 114
  | 45 => 115
  | 46 => 116
  | 47 => 117
  | 48 => 118
  | _ => 0

abbrev MV : Type := Int32 ⊕ (Int64 ⊕ (Nat × Nat))
abbrev Mem : Type := (Nat → Nat → Nat → Int32) × (Nat → Int64)
/-- classes, slots, array classes, addresses -/
abbrev WX : Type := (Nat → ClassId) × (Nat → Nat → Nat) × (Nat → ClassId) × (Nat → Nat → Nat)
abbrev WX.D (X : WX) : va_G := (X.1, X.2.1)
abbrev WX.kA (X : WX) : Nat → ClassId := X.2.2.1
abbrev WX.ad (X : WX) : Nat → Nat → Nat := X.2.2.2
def vv (X : WX) (v : MV) : Value := match v with
  | .inl x => .int x
  | .inr (.inl x) => .long x
  | .inr (.inr q) => .ref (X.ad q.1 q.2)
def tyx (X : WX) : List (ClassId × FieldType) := [(X.kA 0, .int), (X.kA 1, .long), (X.kA 2, .object RX), (X.kA 3, .object RP), (X.kA 4, .object RR), (X.kA 5, .object RB)]
def fv (X : WX) (f : Nat → Int32) (c i k : Nat) : Value := match fk c k with
  | none => .int (f k)
  | some (c', none) => .ref (X.ad c' i)
  | some (c', some z) => .ref (X.ad c' z)
def cellF (X : WX) (f : Nat → Int32) (g : Nat → Int64) (c i : Nat) : va_E :=
  if c < 9 then .inr (c, (List.range (NF c)).map (fv X f c i))
  else if c = 30 then .inl (X.kA 1, 2, .inr (.inl g))
  else match ra c with
    | some (c', o, n, k) => .inl (X.kA k, n, .inr (.inr (.inr (.inr (fun j => some (X.ad c' (o + j)))))))
    | none => .inl (X.kA 0, ln c i, .inl f)
def wsx (X : WX) (u : Mem) : va_W := CI.map (fun q => (X.ad q.1 q.2, cellF X (u.1 q.1 q.2) u.2 q.1 q.2))
def AX (X : WX) : Nat → Prop := fun q => ∃ (k : Nat) (c : Nat × Nat), CI[k]? = some c ∧ q = X.ad c.1 c.2
def InjX (X : WX) : Prop := ∀ (a b : Nat) (p q : Nat × Nat), CI[a]? = some p → CI[b]? = some q → X.ad p.1 p.2 = X.ad q.1 q.2 → a = b
def rd (u : Mem) (c i j : Nat) : Int32 := u.1 c i j
def wr (u : Mem) (c i j : Nat) (v : Int32) : Mem := (fun a b k => if a = c ∧ b = i ∧ k = j then v else u.1 a b k, u.2)
def rdL (u : Mem) (j : Nat) : Int64 := u.2 j
def wrL (u : Mem) (j : Nat) (v : Int64) : Mem := (u.1, vp_updL u.2 j v)
theorem NI_lt {c i : Nat} (h : i < NI c) : c < 49 := by
  by_cases hc : c < 49
  · exact hc
  · exfalso
    unfold NI at h
    split at h <;> omega
theorem CI_at0 : ∀ c, c < 49 → ∀ i, i < NI c → CI[off c + i]? = some (c, i) := by decide +kernel
theorem CI_at {c i : Nat} (h : i < NI c) : CI[off c + i]? = some (c, i) := CI_at0 c (NI_lt h) i h
theorem CI_inv0 : ∀ a, a < 119 → ∀ q, CI[a]? = some q → off q.1 + q.2 = a ∧ q.2 < NI q.1 := by
  intro a ha q hq
  have h : ∀ a, a < 119 → (match CI[a]? with | some q => decide (off q.1 + q.2 = a ∧ q.2 < NI q.1) | none => true) = true := by decide +kernel
  have h1 := h a ha
  rw [hq] at h1
  exact of_decide_eq_true h1
theorem CI_len : CI.length = 119 := by decide +kernel
theorem CI_inv {a : Nat} {q : Nat × Nat} (h : CI[a]? = some q) : off q.1 + q.2 = a ∧ q.2 < NI q.1 :=
  CI_inv0 a (by rw [← CI_len]; exact (List.getElem?_eq_some_iff.mp h).1) q h
theorem wsx_at (X : WX) (u : Mem) {c i : Nat} (h : i < NI c) : (wsx X u)[off c + i]? = some (X.ad c i, cellF X (u.1 c i) u.2 c i) := by
  simp [wsx, List.getElem?_map, CI_at h]
theorem wsx_D {X : WX} (h : InjX X) (u : Mem) : va_D (AX X) (wsx X u) := by
  have at' : ∀ (i : Nat) (p : Nat × va_E), (wsx X u)[i]? = some p → ∃ q : Nat × Nat, CI[i]? = some q ∧ p.1 = X.ad q.1 q.2 := by
    intro i p hp
    rw [wsx, List.getElem?_map] at hp
    cases hq : CI[i]? with
    | none => rw [hq] at hp; cases hp
    | some q => rw [hq] at hp; cases hp; exact ⟨q, rfl, rfl⟩
  refine ⟨fun i j p q hp hq e => ?_, fun k q hq => ?_⟩
  · obtain ⟨a, h1, h2⟩ := at' i p hp
    obtain ⟨b, h3, h4⟩ := at' j q hq
    exact h i j a b h1 h3 (by rw [← h2, ← h4, e])
  · obtain ⟨a, h1, h2⟩ := at' k q hq
    exact ⟨k, a, h1, h2⟩
theorem fk_set (X : WX) (f : Nat → Int32) (c i k : Nat) (v : Int32) (hk : fk c k = none) : ((List.range (NF c)).map (fv X f c i)).set k (.int v) = (List.range (NF c)).map (fv X (upd f k v) c i) := by
  apply List.ext_getElem?
  intro j
  rw [List.getElem?_set]
  by_cases h : k = j
  · subst h
    rw [if_pos rfl]
    by_cases hl : k < NF c
    · rw [if_pos (by simpa using hl)]
      simp [List.getElem?_map, List.getElem?_range hl, fv, hk, upd]
    · rw [if_neg (by simpa using hl)]
      simp [List.getElem?_map, hl]
  · rw [if_neg h]
    by_cases hl : j < NF c
    · simp only [List.getElem?_map, List.getElem?_range hl, Option.map_some, fv]
      cases hj : fk c j with
      | none => simp [upd, Ne.symm h]
      | some q =>
        obtain ⟨c', _ | z⟩ := q <;> rfl
    · simp [List.getElem?_map, hl]
theorem wsx_set {X : WX} {u : Mem} {c i : Nat} (h : i < NI c) (u' : Mem) (e : va_E) (he : cellF X (u'.1 c i) u'.2 c i = e) (ho : ∀ a b, b < NI a → ¬ (a = c ∧ b = i) → cellF X (u'.1 a b) u'.2 a b = cellF X (u.1 a b) u.2 a b) : (wsx X u).set (off c + i) (X.ad c i, e) = wsx X u' := by
  apply List.ext_getElem?
  intro j
  rw [List.getElem?_set]
  by_cases hj : off c + i = j
  · subst hj
    rw [if_pos rfl, wsx_at X u' h, he]
    have := (List.getElem?_eq_some_iff.mp (wsx_at X u h)).1
    rw [if_pos this]
  · rw [if_neg hj]
    simp only [wsx, List.getElem?_map]
    cases hq : CI[j]? with
    | none => rfl
    | some q =>
      obtain ⟨q1, q2⟩ := CI_inv hq
      have hne : ¬ (q.1 = c ∧ q.2 = i) := fun z => hj (by rw [← z.1, ← z.2]; exact q1)
      simp only [Option.map_some]
      rw [ho q.1 q.2 q2 hne]
theorem wr_same (u : Mem) (c i j : Nat) (v : Int32) : (wr u c i j v).1 c i = upd (u.1 c i) j v := by
  funext k
  simp [wr, upd]
theorem wr_other (u : Mem) {c i : Nat} (j : Nat) (v : Int32) {a b : Nat} (h : ¬ (a = c ∧ b = i)) : (wr u c i j v).1 a b = u.1 a b := by
  funext k
  have : ¬ (a = c ∧ b = i ∧ k = j) := fun z => h ⟨z.1, z.2.1⟩
  simp [wr, this]
theorem wsx_wr {X : WX} {u : Mem} {c i j : Nat} {v : Int32} (h : i < NI c) (e : va_E) (he : cellF X (upd (u.1 c i) j v) u.2 c i = e) : (wsx X u).set (off c + i) (X.ad c i, e) = wsx X (wr u c i j v) := by
  refine wsx_set h _ e (by rw [wr_same]; exact he) fun a b _ hne => ?_
  rw [wr_other u j v hne]; rfl
theorem cellF_obj (X : WX) (f : Nat → Int32) (g : Nat → Int64) {c : Nat} (i : Nat) (h : c < 9) : cellF X f g c i = .inr (c, (List.range (NF c)).map (fv X f c i)) := by simp [cellF, h]
theorem ia_not : ∀ c, c < 49 → ia c = true → ¬ c < 9 ∧ c ≠ 30 ∧ ra c = none := by decide +kernel
theorem ia_lt {c : Nat} (h : ia c = true) : c < 49 := by
  by_cases hc : c < 49
  · exact hc
  · exfalso
    unfold ia at h
    split at h <;> first | omega | cases h
theorem cellF_int (X : WX) (f : Nat → Int32) (g : Nat → Int64) {c : Nat} (i : Nat) (h : ia c = true) : cellF X f g c i = .inl (X.kA 0, ln c i, .inl f) := by
  obtain ⟨h1, h2, h3⟩ := ia_not c (ia_lt h) h
  simp [cellF, h1, h2, h3]
theorem cellF_ch (X : WX) (f : Nat → Int32) (g : Nat → Int64) (i : Nat) : cellF X f g 30 i = .inl (X.kA 1, 2, .inr (.inl g)) := by simp [cellF]
theorem ra_not : ∀ c, c < 49 → (ra c).isSome = true → ¬ c < 9 ∧ c ≠ 30 := by decide +kernel
theorem ra_lt {c : Nat} {q : Nat × Nat × Nat × Nat} (h : ra c = some q) : c < 49 := by
  by_cases hc : c < 49
  · exact hc
  · exfalso
    unfold ra at h
    split at h <;> first | omega | cases h
theorem cellF_ref (X : WX) (f : Nat → Int32) (g : Nat → Int64) {c c' o n k : Nat} (i : Nat) (h : ra c = some (c', o, n, k)) : cellF X f g c i = .inl (X.kA k, n, .inr (.inr (.inr (.inr (fun j => some (X.ad c' (o + j))))))) := by
  obtain ⟨h1, h2⟩ := ra_not c (ra_lt h) (by rw [h]; rfl)
  simp [cellF, h1, h2, h]
/-- the words that a callee may be told: those of the tables that stay -/
def tg : List Cond := lw_tbl.filter goodWord
theorem tg_of {w : Cond} (h : w ∈ tg) : w ∈ lw_tbl := (List.mem_filter.mp h).1
theorem tg_goodIn : GoodIn lw_tbl tg := fun w h => ⟨tg_of h, good_of_word (List.mem_filter.mp h).2⟩
theorem tg_goodIn2 : GoodIn tg tg := fun w h => ⟨h, good_of_word (List.mem_filter.mp h).2⟩
def inT (k : Nat) (w : Cond) : Bool := decide (lw_tbl[k]? = some w) && goodWord w
theorem inT_mem {k : Nat} {w : Cond} (h : inT k w = true) : w ∈ tg := by
  simp only [inT, Bool.and_eq_true, decide_eq_true_eq] at h
  exact List.mem_filter.mpr ⟨List.mem_of_getElem? h.1, h.2⟩
def isNest : Cond → Bool
  | .methodLinkNest .. => true
  | _ => false
def nst : List Cond := lw_tbl.filter isNest
def NW (U : State) : Prop := ∀ w ∈ nst, va_Nw w U
def inN (k : Nat) (w : Cond) : Bool := decide (lw_tbl[k]? = some w) && isNest w
theorem inN_mem {k : Nat} {w : Cond} (h : inN k w = true) : w ∈ nst := by
  simp only [inN, Bool.and_eq_true, decide_eq_true_eq] at h
  exact List.mem_filter.mpr ⟨List.mem_of_getElem? h.1, h.2⟩
theorem NW.same {u U : State} (h : u.vm = U.vm) (hZ : NW u) : NW U := by
  intro w hw
  have hn := (List.mem_filter.mp hw).2
  refine va_Nw.same ?_ h (hZ w hw)
  cases w <;> first | rfl | cases hn
theorem NW.warm {s U : State} (hW : s.WarmedH U.vm) (hZ : NW s) : NW U := by
  intro w hw
  have hn := (List.mem_filter.mp hw).2
  have h1 := hZ w hw
  cases w <;> first | exact va_Nw.warmM hW h1 | cases hn
/-- the classes' rows in the tables -/
theorem wCl_in0 : ∀ r ∈ wCl, ∀ w ∈ u_ws r.1 r.2.1 r.2.2, w ∈ lw_tbl := by decide +kernel
theorem wCl_in1 : ∀ r ∈ wCl, ∀ w ∈ u_ws r.1 r.2.1 r.2.2, goodWord w = true := by decide +kernel
theorem wCl_in : ∀ r ∈ wCl, ∀ w ∈ u_ws r.1 r.2.1 r.2.2, w ∈ tg := fun r hr w hw => List.mem_filter.mpr ⟨wCl_in0 r hr w hw, wCl_in1 r hr w hw⟩
theorem wCl_nm : ∀ r ∈ wCl, ∀ a, a < r.2.2 → ∀ b, b < r.2.2 → a ≠ b → (r.2.1 a).2.1 ≠ (r.2.1 b).2.1 := by decide +kernel
def tyf (T : u_T) (k : Nat) : FieldType := (parseFieldDescriptor (T k).2.2.1).getD .int
theorem wCl_ty : ∀ r ∈ wCl, ∀ k, k < r.2.2 → parseFieldDescriptor (r.2.1 k).2.2.1 = some (tyf r.2.1 k) := by decide +kernel
theorem wCl_NF : ∀ c, c < 9 → ∃ C T, wCl[c]? = some (C, T, NF c) := by
  intro c hc
  match c, hc with
  | 0, _ => exact ⟨_, _, rfl⟩
  | 1, _ => exact ⟨_, _, rfl⟩
  | 2, _ => exact ⟨_, _, rfl⟩
  | 3, _ => exact ⟨_, _, rfl⟩
  | 4, _ => exact ⟨_, _, rfl⟩
  | 5, _ => exact ⟨_, _, rfl⟩
  | 6, _ => exact ⟨_, _, rfl⟩
  | 7, _ => exact ⟨_, _, rfl⟩
  | 8, _ => exact ⟨_, _, rfl⟩
end
section
abbrev Sg : Type := MethodName × ByteArray × Nat × Option FieldType
abbrev En : Type := Instr × Nat × Nat × Nat × List Nat × Sg
abbrev Cd : Type := List (Nat × List En)
abbrev Mth : Type := Sg × String × Cd
def kI (a b : Nat) : Int32 := if b = 0 then nI a else - nI a
def kL (a b : Nat) : Int64 := if b = 0 then lN a else - lN a
def pcOf (cd : Cd) (b : Nat) : Nat := (cd.getD b (0, [])).1
def esOf (cd : Cd) (b : Nat) : List En := (cd.getD b (0, [])).2
def rmD (d : Nat) : Room := { frames := d, cells := 0, slots := 0, locals := 40 * d }
def wsG (g : Sg) : List Cond := .code g.1 g.2.1 g.2.2.1 g.2.2.2 :: tg
-- locals
def lk : List (Option MV) → Nat → Option MV
  | [], _ => none
  | x :: _, 0 => x
  | _ :: r, n + 1 => lk r n
def sk : List (Option MV) → Nat → Option MV → List (Option MV)
  | [], _, _ => []
  | _ :: r, 0, v => v :: r
  | x :: r, n + 1, v => x :: sk r n v
def lgq (o : Option MV) : Bool := match o with
  | some (.inr (.inl _)) => true
  | _ => false
def clr (L : List (Option MV)) (i : Nat) : List (Option MV) := match i with
  | 0 => L
  | j + 1 => if lgq (lk L j) = true then sk L j none else L
def st1 (L : List (Option MV)) (i : Nat) (v : MV) : List (Option MV) := sk (clr L i) i (some v)
def st2 (L : List (Option MV)) (i : Nat) (v : MV) : List (Option MV) := sk (sk (clr L i) i (some v)) (i + 1) none
theorem lk_sk (L : List (Option MV)) : ∀ (i j : Nat) (v : Option MV), lk (sk L i v) j = if i = j ∧ j < L.length then v else lk L j := by
  induction L with
  | nil => intro i j v; simp [sk, lk]
  | cons x r ih =>
    intro i j v
    cases i with
    | zero => cases j <;> simp [sk, lk]
    | succ i =>
      cases j with
      | zero => simp [sk, lk]
      | succ j => simp [sk, lk, ih]
theorem sk_len (L : List (Option MV)) : ∀ (i : Nat) (v : Option MV), (sk L i v).length = L.length := by
  induction L with
  | nil => intro i v; rfl
  | cons x r ih =>
    intro i v
    cases i with
    | zero => rfl
    | succ i => simp [sk, ih]
/-- the locals hold at least what the list says -/
def LV (X : WX) (ls : Array Slot) (nL : Nat) (L : List (Option MV)) : Prop := ∃ lv : List (Nat × Value), lv_has ls nL lv ∧ ∀ (i : Nat) (v : MV), lk L i = some v → (i, vv X v) ∈ lv
theorem LV.at {X : WX} {ls : Array Slot} {nL : Nat} {L : List (Option MV)} (h : LV X ls nL L) {i : Nat} {v : MV} (hi : lk L i = some v) : ls[i]? = some (.val (vv X v)) := by
  obtain ⟨lv, h1, h2⟩ := h
  exact h1.2.2 _ (h2 i v hi)
theorem clr_at {L : List (Option MV)} {i j : Nat} {w : MV} (h : lk (clr L i) j = some w) : lk L j = some w ∧ ¬ (j + 1 = i ∧ lgq (some w) = true) := by
  cases i with
  | zero => exact ⟨h, fun z => by omega⟩
  | succ i =>
    simp only [clr] at h
    split at h
    · next hg =>
      rw [lk_sk] at h
      split at h
      · cases h
      · next hn =>
        refine ⟨h, fun z => ?_⟩
        have hj : j = i := by omega
        subst hj
        rw [h] at hg
        have : j < L.length := by
          rcases Nat.lt_or_ge j L.length with q | q
          · exact q
          · exfalso
            have : ∀ (L : List (Option MV)) (j : Nat), L.length ≤ j → lk L j = none := by
              intro L
              induction L with
              | nil => intro j _; rfl
              | cons x r ih => intro j hj; cases j with
                | zero => simp at hj
                | succ j => exact ih j (by simpa using hj)
            rw [this L j q] at h
            cases h
        exact hn ⟨rfl, this⟩
    · next hg =>
      refine ⟨h, fun z => ?_⟩
      have hj : j = i := by omega
      subst hj
      rw [h] at hg
      exact hg z.2
theorem vv_cat (X : WX) (v : MV) : (vv X v).category = if lgq (some v) = true then 2 else 1 := by
  rcases v with x | x | x <;> rfl
theorem LV.st1 {X : WX} {nL : Nat} {L : List (Option MV)} {i : Nat} {v : MV} {lv : List (Nat × Value)} (h2 : ∀ (i : Nat) (v : MV), lk L i = some v → (i, vv X v) ∈ lv) {ls' : Array Slot} (h : lv_has ls' nL ((i, vv X v) :: lv.filter (fun q => !(q.1 == i) && !(q.1 + 1 == i && q.2.category == 2)))) : LV X ls' nL (st1 L i v) := by
  refine ⟨_, h, fun j w hj => ?_⟩
  unfold Jvm.Pilot.CPosterWallLaw_law_r5712_305f43.st1 at hj
  rw [lk_sk] at hj
  split at hj
  · next hc => cases hj; rw [hc.1]; exact List.mem_cons_self
  · next hc =>
    obtain ⟨q1, q2⟩ := clr_at hj
    by_cases hij : i = j
    · subst hij
      exfalso
      have hlen : ∀ L : List (Option MV), (clr L i).length = L.length := by
        intro L; cases i <;> simp only [clr]; split <;> simp [sk_len]
      have : ∀ (L : List (Option MV)) (j : Nat) (w : MV), lk L j = some w → j < L.length := by
        intro L
        induction L with
        | nil => intro j w h; cases h
        | cons x r ih => intro j w h; cases j with
          | zero => simp
          | succ j => have := ih j w h; simp; omega
      exact hc ⟨rfl, this _ _ _ hj⟩
    · refine List.mem_cons_of_mem _ (List.mem_filter.mpr ⟨h2 j w q1, ?_⟩)
      have hne : ¬ j = i := fun z => hij z.symm
      rw [vv_cat]
      cases hg : lgq (some w) with
      | false => simp [hne]
      | true =>
        have : ¬ j + 1 = i := fun z => q2 ⟨z, hg⟩
        simp [hne, this]
theorem LV.st2 {X : WX} {nL : Nat} {L : List (Option MV)} {i : Nat} {v : MV} {lv : List (Nat × Value)} (h2 : ∀ (i : Nat) (v : MV), lk L i = some v → (i, vv X v) ∈ lv) {ls' : Array Slot} (h : lv_has ls' nL ((i, vv X v) :: lv.filter (fun q => !(q.1 == i) && (!(q.1 == i + 1) && !(q.1 + 1 == i && q.2.category == 2))))) : LV X ls' nL (st2 L i v) := by
  have h1 : ∀ (j : Nat) (w : MV), lk (Jvm.Pilot.CPosterWallLaw_law_r5712_305f43.st1 L i v) j = some w → j ≠ i + 1 → (j, vv X w) ∈ ((i, vv X v) :: lv.filter (fun q => !(q.1 == i) && (!(q.1 == i + 1) && !(q.1 + 1 == i && q.2.category == 2)))) := by
    intro j w hj hji
    unfold Jvm.Pilot.CPosterWallLaw_law_r5712_305f43.st1 at hj
    rw [lk_sk] at hj
    split at hj
    · next hc => cases hj; rw [hc.1]; exact List.mem_cons_self
    · next hc =>
      obtain ⟨q1, q2⟩ := clr_at hj
      by_cases hij : i = j
      · subst hij
        exfalso
        have : ∀ (L : List (Option MV)) (j : Nat) (w : MV), lk L j = some w → j < L.length := by
          intro L
          induction L with
          | nil => intro j w h; cases h
          | cons x r ih => intro j w h; cases j with
            | zero => simp
            | succ j => have := ih j w h; simp; omega
        exact hc ⟨rfl, this _ _ _ hj⟩
      · refine List.mem_cons_of_mem _ (List.mem_filter.mpr ⟨h2 j w q1, ?_⟩)
        have hne : ¬ j = i := fun z => hij z.symm
        rw [vv_cat]
        cases hg : lgq (some w) with
        | false => simp [hne, hji]
        | true =>
          have : ¬ j + 1 = i := fun z => q2 ⟨z, hg⟩
          simp [hne, this, hji]
  refine ⟨_, h, fun j w hj => ?_⟩
  unfold Jvm.Pilot.CPosterWallLaw_law_r5712_305f43.st2 at hj
  rw [lk_sk] at hj
  split at hj
  · cases hj
  · next hc =>
    refine h1 j w hj fun z => ?_
    subst z
    have : ∀ (L : List (Option MV)) (j : Nat) (w : MV), lk L j = some w → j < L.length := by
      intro L
      induction L with
      | nil => intro j w h; cases h
      | cons x r ih => intro j w h; cases j with
        | zero => simp
        | succ j => have := ih j w h; simp; omega
    exact hc ⟨rfl, this _ _ _ hj⟩
/-- fewer known locals -/
def leL : List (Option MV) → List (Option MV) → Prop
  | [], _ => True
  | none :: r, L => leL r L.tail
  | some v :: r, L => L.head? = some (some v) ∧ leL r L.tail
theorem leL_at : ∀ (A B : List (Option MV)) (i : Nat) (v : MV), leL A B → lk A i = some v → lk B i = some v := by
  intro A
  induction A with
  | nil => intro B i v _ h; cases h
  | cons x r ih =>
    intro B i v hle h
    cases B with
    | nil =>
      cases i with
      | zero =>
        cases x with
        | none => cases h
        | some w => exact absurd hle.1 (by simp)
      | succ i =>
        have : leL r [] := by cases x with
          | none => exact hle
          | some w => exact hle.2
        have := ih [] i v this h
        cases this
    | cons y t =>
      cases i with
      | zero =>
        cases x with
        | none => cases h
        | some w =>
          have := hle.1
          simp at this
          subst this
          exact h
      | succ i =>
        have h1 : leL r t := by cases x with
          | none => exact hle
          | some w => exact hle.2
        exact ih t i v h1 h
theorem LV.le {X : WX} {ls : Array Slot} {nL : Nat} {A B : List (Option MV)} (h : LV X ls nL B) (hle : leL A B) : LV X ls nL A := by
  obtain ⟨lv, h1, h2⟩ := h
  exact ⟨lv, h1, fun i v hi => h2 i v (leL_at A B i v hle hi)⟩
-- what the operand stack must hold
def pI (st : List MV) (K : Int32 → List MV → Prop) : Prop := match st with
  | .inl x :: t => K x t
  | _ => False
def pL (st : List MV) (K : Int64 → List MV → Prop) : Prop := match st with
  | .inr (.inl x) :: t => K x t
  | _ => False
def pR (st : List MV) (K : Nat → Nat → List MV → Prop) : Prop := match st with
  | .inr (.inr (c, i)) :: t => K c i t
  | _ => False
def pA (st : List MV) (K : MV → List MV → Prop) : Prop := match st with
  | .inl x :: t => K (.inl x) t
  | .inr (.inr q) :: t => K (.inr (.inr q)) t
  | _ => False
def oI (o : Option MV) (K : Int32 → Prop) : Prop := match o with
  | some (.inl x) => K x
  | _ => False
def oL (o : Option MV) (K : Int64 → Prop) : Prop := match o with
  | some (.inr (.inl x)) => K x
  | _ => False
def oR (o : Option MV) (K : Nat → Nat → Prop) : Prop := match o with
  | some (.inr (.inr (c, i))) => K c i
  | _ => False
theorem pI_inv {st : List MV} {K : Int32 → List MV → Prop} (h : pI st K) : ∃ x t, st = .inl x :: t ∧ K x t := by
  rcases st with _ | ⟨x | x | x, t⟩ <;> first | exact h.elim | exact ⟨_, _, rfl, h⟩
theorem pL_inv {st : List MV} {K : Int64 → List MV → Prop} (h : pL st K) : ∃ x t, st = .inr (.inl x) :: t ∧ K x t := by
  rcases st with _ | ⟨x | x | x, t⟩ <;> first | exact h.elim | exact ⟨_, _, rfl, h⟩
theorem pR_inv {st : List MV} {K : Nat → Nat → List MV → Prop} (h : pR st K) : ∃ c i t, st = .inr (.inr (c, i)) :: t ∧ K c i t := by
  rcases st with _ | ⟨x | x | ⟨c, i⟩, t⟩ <;> first | exact h.elim | exact ⟨_, _, _, rfl, h⟩
theorem pA_inv {st : List MV} {K : MV → List MV → Prop} (h : pA st K) : ∃ v t, st = v :: t ∧ lgq (some v) = false ∧ K v t := by
  rcases st with _ | ⟨x | x | x, t⟩ <;> first | exact h.elim | exact ⟨_, _, rfl, rfl, h⟩
theorem oI_inv {o : Option MV} {K : Int32 → Prop} (h : oI o K) : ∃ x, o = some (.inl x) ∧ K x := by
  rcases o with _ | x | x | x <;> first | exact h.elim | exact ⟨_, rfl, h⟩
theorem oL_inv {o : Option MV} {K : Int64 → Prop} (h : oL o K) : ∃ x, o = some (.inr (.inl x)) ∧ K x := by
  rcases o with _ | x | x | x <;> first | exact h.elim | exact ⟨_, rfl, h⟩
theorem oR_inv {o : Option MV} {K : Nat → Nat → Prop} (h : oR o K) : ∃ c i, o = some (.inr (.inr (c, i))) ∧ K c i := by
  rcases o with _ | x | x | ⟨c, i⟩ <;> first | exact h.elim | exact ⟨_, _, rfl, h⟩
def cats : List MV → Nat
  | [] => 0
  | v :: r => (match v with | .inr (.inl _) => 2 | _ => 1) + cats r
theorem cats_eq (X : WX) (t : List MV) : ((t.map (vv X)).map fun v => v.category).sum = cats t := by
  induction t with
  | nil => rfl
  | cons v r ih =>
    simp only [List.map_cons, List.sum_cons, ih, cats]
    rcases v with x | x | x <;> rfl
def pops : Nat → List MV → List MV → (List MV → List MV → Prop) → Prop
  | 0, acc, st, K => K acc st
  | n + 1, acc, v :: st, K => pops n (v :: acc) st K
  | _ + 1, _, [], _ => False
theorem pops_inv : ∀ (n : Nat) (acc st : List MV) (K : List MV → List MV → Prop), pops n acc st K → ∃ as t, as.length = n ∧ st = as.reverse ++ t ∧ K (as ++ acc) t := by
  intro n
  induction n with
  | zero => intro acc st K h; exact ⟨[], st, rfl, rfl, h⟩
  | succ n ih =>
    intro acc st K h
    cases st with
    | nil => exact h.elim
    | cons v st =>
      obtain ⟨as, t, h1, h2, h3⟩ := ih (v :: acc) st K h
      exact ⟨as ++ [v], t, by simp [h1], by simp [h2], by simpa using h3⟩
def pushR (r : Option MV) (t : List MV) : List MV := match r with
  | none => t
  | some v => v :: t
def irm (x y : Int32) : Int32 := x - x / y * y
def lrm (x y : Int64) : Int64 := x - x / y * y
def ush (x y : Int32) : Int32 := (x.toUInt32 >>> (y.toUInt32 &&& Int32.toUInt32 31)).toInt32
def alen (c i : Nat) : Option Nat := if ia c = true then some (ln c i) else match ra c with
  | some q => some q.2.2.1
  | none => if c = 30 then some 2 else none
def isZ (a k : Nat) : Bool := (a == 3 && k == 1) || (a == 7 && k == 11)
def fm (u : Mem) (a i k : Nat) : MV := match fk a k with
  | none => .inl (rd u a i k)
  | some (c', none) => .inr (.inr (c', i))
  | some (c', some z) => .inr (.inr (c', z))
def cpy (u : Mem) (c i c' i' sp dp n : Nat) : Mem := (fun a b => if a = c' ∧ b = i' then va_cpy (u.1 c i) (u.1 c' i') sp dp n else u.1 a b, u.2)
def sw : List Nat → Nat → Int32 → (Nat → Prop) → Nat → Prop
  | [], _, _, K, D => K D
  | b :: bs, j, x, K, D => (x = nI j → K b) ∧ (¬ x = nI j → sw bs (j + 1) x K D)
/-- where a method may end, and with what -/
def retAt (Y : Mth) (r : Option MV) (pc : Nat) : Prop := match r with
  | none => decode Y.1.2.1 pc = .ok (.return_, 1) ∧ Y.1.2.2.2 = none
  | some (.inl v) => decode Y.1.2.1 pc = .ok (.ireturn, 1) ∧ (Y.1.2.2.2 = some .int ∨ (Y.1.2.2.2 = some .boolean ∧ (v = nI 0 ∨ v = nI 1)))
  | some (.inr (.inl _)) => decode Y.1.2.1 pc = .ok (.lreturn, 1) ∧ Y.1.2.2.2 = some .long
  | _ => False
def Ctx (d : Nat) (X : WX) (Y : Mth) (Q : Option MV → Mem → Prop) (p : Program) (l : Launch) (e : Env) (R : Room) (s : State) (m : MethodId) (args : Array Value) (below : List Frame) (meth : Method) (c : Code) (cells slots : Nat) (G : State → Prop) : Prop :=
  p.tables.exec = Jvm.exec ∧ c.code = Y.1.2.1 ∧ c.maxLocals = Y.1.2.2.1 ∧ s.vm.findClass Y.2.1 = some m.cls ∧ (∀ w ∈ tg, w.before args s = true) ∧ va_K X.D wCl (tyx X) s ∧ (InjX X ∧ NW s) ∧ (d ≤ R.frames ∧ 40 * d ≤ R.locals ∧ cells ≤ R.cells ∧ slots ≤ R.slots) ∧
  ∀ (r : Option MV) (u : Mem) (H : Heap) (locs : List Loc) (ls : Array Slot) (pc : Nat), Q r u → va_P X.D wCl (wsx X u) H → va_S (AX X) s.heap H locs → retAt Y r pc → W p l e R s m args below meth c H locs cells slots G (F0 m pc ls (r.toList.map (vv X)))
def Run (d : Nat) (Y : Mth) (pc : Nat) (L : List (Option MV)) (st : List MV) (u : Mem) (Q : Option MV → Mem → Prop) : Prop :=
  ∀ (X : WX) (p : Program) (l : Launch) (e : Env) (R : Room) (s : State) (m : MethodId) (args : Array Value) (below : List Frame) (meth : Method) (c : Code) (cells slots : Nat) (G : State → Prop) (H : Heap) (locs : List Loc) (ls : Array Slot), Ctx d X Y Q p l e R s m args below meth c cells slots G → va_P X.D wCl (wsx X u) H → va_S (AX X) s.heap H locs → LV X ls Y.1.2.2.1 L → W p l e R s m args below meth c H locs cells slots G (F0 m pc ls (st.map (vv X)))
def RunB (d : Nat) (Y : Mth) (b : Nat) (L : List (Option MV)) (st : List MV) (u : Mem) (Q : Option MV → Mem → Prop) : Prop := Run d Y (pcOf Y.2.2 b) L st u Q
def okPc (X : WX) (as : List MV) (u : Mem) : Array Value → State → Prop := fun v U => v = (as.map (vv X)).toArray ∧ va_P X.D wCl (wsx X u) U.heap ∧ va_K X.D wCl (tyx X) U ∧ InjX X ∧ NW U
def okQc (X : WX) (Q : Option MV → Mem → Prop) : Array Value → State → Outcome → State → Prop := fun _ st oc t => (∃ (r : Option MV) (u : Mem), oc = .returned (r.map (vv X)) ∧ Q r u ∧ va_P X.D wCl (wsx X u) t.heap) ∧ va_F (AX X) st t
/-- a method, called with these arguments over this memory, comes back with Q; d frames are there for it -/
def OKm (d : Nat) (g : Sg) (as : List MV) (u : Mem) (Q : Option MV → Mem → Prop) : Prop :=
  ∀ (l : Launch) (X : WX), Met l g.1 (wsG g) (rmD d) (okPc X as u) (okQc X Q) 0 0 (AX X)
def go (d : Nat) (Y : Mth) (Q : Option MV → Mem → Prop) : List En → Nat → List (Option MV) → List MV → Mem → Prop
  | [], b, L, st, u => RunB (d + 1) Y (b + 1) L st u Q
  | (ins, _, a, k, xs, g) :: r, b, L, st, u => match ins with
    | .iload _ => oI (lk L a) fun x => go d Y Q r b L (.inl x :: st) u
    | .iload_n _ => oI (lk L a) fun x => go d Y Q r b L (.inl x :: st) u
    | .lload _ => oL (lk L a) fun x => go d Y Q r b L (.inr (.inl x) :: st) u
    | .lload_n _ => oL (lk L a) fun x => go d Y Q r b L (.inr (.inl x) :: st) u
    | .aload _ => oR (lk L a) fun c i => go d Y Q r b L (.inr (.inr (c, i)) :: st) u
    | .aload_n _ => oR (lk L a) fun c i => go d Y Q r b L (.inr (.inr (c, i)) :: st) u
    | .istore _ => pI st fun x t => go d Y Q r b (st1 L a (.inl x)) t u
    | .istore_n _ => pI st fun x t => go d Y Q r b (st1 L a (.inl x)) t u
    | .lstore _ => pL st fun x t => go d Y Q r b (st2 L a (.inr (.inl x))) t u
    | .lstore_n _ => pL st fun x t => go d Y Q r b (st2 L a (.inr (.inl x))) t u
    | .astore _ => pR st fun c i t => go d Y Q r b (st1 L a (.inr (.inr (c, i)))) t u
    | .astore_n _ => pR st fun c i t => go d Y Q r b (st1 L a (.inr (.inr (c, i)))) t u
    | .iconst _ => go d Y Q r b L (.inl (kI a k) :: st) u
    | .bipush _ => go d Y Q r b L (.inl (kI a k) :: st) u
    | .sipush _ => go d Y Q r b L (.inl (kI a k) :: st) u
    | .ldc _ => go d Y Q r b L (.inl (kI a k) :: st) u
    | .ldc_w _ => go d Y Q r b L (.inl (kI a k) :: st) u
    | .lconst _ => go d Y Q r b L (.inr (.inl (kL a k)) :: st) u
    | .ldc2_w _ => go d Y Q r b L (.inr (.inl (kL a k)) :: st) u
    | .iadd => pI st fun y t => pI t fun x t => go d Y Q r b L (.inl (x + y) :: t) u
    | .isub => pI st fun y t => pI t fun x t => go d Y Q r b L (.inl (x - y) :: t) u
    | .imul => pI st fun y t => pI t fun x t => go d Y Q r b L (.inl (x * y) :: t) u
    | .idiv => pI st fun y t => pI t fun x t => ¬ y = 0 ∧ go d Y Q r b L (.inl (x / y) :: t) u
    | .irem => pI st fun y t => pI t fun x t => ¬ y = 0 ∧ go d Y Q r b L (.inl (irm x y) :: t) u
    | .iand => pI st fun y t => pI t fun x t => go d Y Q r b L (.inl (x &&& y) :: t) u
    | .ior => pI st fun y t => pI t fun x t => go d Y Q r b L (.inl (x ||| y) :: t) u
    | .ishl => pI st fun y t => pI t fun x t => go d Y Q r b L (.inl (x <<< (y &&& 31)) :: t) u
    | .ishr => pI st fun y t => pI t fun x t => go d Y Q r b L (.inl (x >>> (y &&& 31)) :: t) u
    | .iushr => pI st fun y t => pI t fun x t => go d Y Q r b L (.inl (ush x y) :: t) u
    | .i2l => pI st fun x t => go d Y Q r b L (.inr (.inl x.toInt64) :: t) u
    | .i2b => pI st fun x t => go d Y Q r b L (.inl x.toInt8.toInt32 :: t) u
    | .i2s => pI st fun x t => go d Y Q r b L (.inl x.toInt16.toInt32 :: t) u
    | .ladd => pL st fun y t => pL t fun x t => go d Y Q r b L (.inr (.inl (x + y)) :: t) u
    | .lsub => pL st fun y t => pL t fun x t => go d Y Q r b L (.inr (.inl (x - y)) :: t) u
    | .lmul => pL st fun y t => pL t fun x t => go d Y Q r b L (.inr (.inl (x * y)) :: t) u
    | .ldiv => pL st fun y t => pL t fun x t => ¬ y = 0 ∧ go d Y Q r b L (.inr (.inl (x / y)) :: t) u
    | .lrem => pL st fun y t => pL t fun x t => ¬ y = 0 ∧ go d Y Q r b L (.inr (.inl (lrm x y)) :: t) u
    | .lshl => pI st fun y t => pL t fun x t => go d Y Q r b L (.inr (.inl (x <<< (y.toInt64 &&& 63))) :: t) u
    | .lcmp => pL st fun y t => pL t fun x t => go d Y Q r b L (.inl (lg_cmp x y) :: t) u
    | .ifCond .eq _ => pI st fun x t => (x = 0 → RunB (d + 1) Y a L t u Q) ∧ (¬ x = 0 → go d Y Q r b L t u)
    | .ifCond .ne _ => pI st fun x t => (¬ x = 0 → RunB (d + 1) Y a L t u Q) ∧ (x = 0 → go d Y Q r b L t u)
    | .ifCond .lt _ => pI st fun x t => (x < 0 → RunB (d + 1) Y a L t u Q) ∧ (¬ x < 0 → go d Y Q r b L t u)
    | .ifCond .ge _ => pI st fun x t => (0 ≤ x → RunB (d + 1) Y a L t u Q) ∧ (¬ 0 ≤ x → go d Y Q r b L t u)
    | .ifCond .gt _ => pI st fun x t => (0 < x → RunB (d + 1) Y a L t u Q) ∧ (¬ 0 < x → go d Y Q r b L t u)
    | .ifCond .le _ => pI st fun x t => (x ≤ 0 → RunB (d + 1) Y a L t u Q) ∧ (¬ x ≤ 0 → go d Y Q r b L t u)
    | .if_icmp .eq _ => pI st fun y t => pI t fun x t => (x = y → RunB (d + 1) Y a L t u Q) ∧ (¬ x = y → go d Y Q r b L t u)
    | .if_icmp .ne _ => pI st fun y t => pI t fun x t => (¬ x = y → RunB (d + 1) Y a L t u Q) ∧ (x = y → go d Y Q r b L t u)
    | .if_icmp .lt _ => pI st fun y t => pI t fun x t => (x < y → RunB (d + 1) Y a L t u Q) ∧ (¬ x < y → go d Y Q r b L t u)
    | .if_icmp .ge _ => pI st fun y t => pI t fun x t => (y ≤ x → RunB (d + 1) Y a L t u Q) ∧ (¬ y ≤ x → go d Y Q r b L t u)
    | .if_icmp .gt _ => pI st fun y t => pI t fun x t => (y < x → RunB (d + 1) Y a L t u Q) ∧ (¬ y < x → go d Y Q r b L t u)
    | .if_icmp .le _ => pI st fun y t => pI t fun x t => (x ≤ y → RunB (d + 1) Y a L t u Q) ∧ (¬ x ≤ y → go d Y Q r b L t u)
    | .goto _ => RunB (d + 1) Y a L st u Q
    | .iinc _ _ => oI (lk L a) fun x => go d Y Q r b (st1 L a (.inl (x + kI k (xs.headD 0)))) st u
    | .dup => pA st fun v t => go d Y Q r b L (v :: v :: t) u
    | .dup2 => pA st fun v t => pA t fun w t => go d Y Q r b L (v :: w :: v :: w :: t) u
    | .pop => pA st fun _ t => go d Y Q r b L t u
    | .getfield _ => pR st fun c i t => c = a ∧ i < NI a ∧ go d Y Q r b L (fm u a i k :: t) u
    | .putfield _ => pI st fun v t => pR t fun c i t => c = a ∧ i < NI a ∧ fk a k = none ∧ (isZ a k = true → v = nI 0 ∨ v = nI 1) ∧ go d Y Q r b L t (wr u a i k v)
    | .iaload => pI st fun x t => pR t fun c i t => ia c = true ∧ i < NI c ∧ vp_in x (ln c i) ∧ go d Y Q r b L (.inl (rd u c i x.toNatClampNeg) :: t) u
    | .iastore => pI st fun v t => pI t fun x t => pR t fun c i t => ia c = true ∧ i < NI c ∧ vp_in x (ln c i) ∧ go d Y Q r b L t (wr u c i x.toNatClampNeg v)
    | .laload => pI st fun x t => pR t fun c i t => c = 30 ∧ i < NI c ∧ vp_in x 2 ∧ go d Y Q r b L (.inr (.inl (rdL u x.toNatClampNeg)) :: t) u
    | .lastore => pL st fun v t => pI t fun x t => pR t fun c i t => c = 30 ∧ i < NI c ∧ vp_in x 2 ∧ go d Y Q r b L t (wrL u x.toNatClampNeg v)
    | .aaload => pI st fun x t => pR t fun c i t => i < NI c ∧ (match ra c with
        | some q => vp_in x q.2.2.1 ∧ go d Y Q r b L (.inr (.inr (q.1, q.2.1 + x.toNatClampNeg)) :: t) u
        | none => False)
    | .arraylength => pR st fun c i t => i < NI c ∧ (match alen c i with
        | some n => go d Y Q r b L (.inl (nI n) :: t) u
        | none => False)
    | .tableswitch _ _ _ _ => pI st fun x t => sw xs 0 x (fun b' => RunB (d + 1) Y b' L t u Q) a
    | .invokevirtual _ => pops a [] st fun as t => pR t fun c i t => c = k ∧ i < NI c ∧ cats t ≤ 8 ∧ OKm d g (.inr (.inr (c, i)) :: as) u fun v u' => go d Y Q r b L (pushR v t) u'
    | .invokestatic _ => if k = 3 then
          pI st fun n t => pI t fun dp t => pR t fun c' i' t => pI t fun sp t => pR t fun c i t => ia c = true ∧ i < NI c ∧ ia c' = true ∧ i' < NI c' ∧ cats t ≤ 8 ∧ ¬ sp < 0 ∧ ¬ dp < 0 ∧ ¬ n < 0 ∧ sp.toNatClampNeg + n.toNatClampNeg ≤ ln c i ∧ dp.toNatClampNeg + n.toNatClampNeg ≤ ln c' i' ∧ go d Y Q r b L t (cpy u c i c' i' sp.toNatClampNeg dp.toNatClampNeg n.toNatClampNeg)
        else if k = 4 then pI st fun y t => pI t fun x t => cats t ≤ 8 ∧ go d Y Q r b L (.inl (if x < y then y else x) :: t) u
        else if k = 5 then pI st fun y t => pI t fun x t => cats t ≤ 8 ∧ go d Y Q r b L (.inl (if y < x then y else x) :: t) u
        else if k = 6 then pL st fun y t => pL t fun x t => cats t ≤ 8 ∧ go d Y Q r b L (.inr (.inl (if y < x then x else y)) :: t) u
        else pops a [] st fun as t => cats t ≤ 8 ∧ OKm d g as u fun v u' => go d Y Q r b L (pushR v t) u'
    | .ireturn => pI st fun v t => t = [] ∧ (k = 1 → v = nI 0 ∨ v = nI 1) ∧ Q (some (.inl v)) u
    | .lreturn => pL st fun v t => t = [] ∧ Q (some (.inr (.inl v))) u
    | .return_ => st = [] ∧ Q none u
    | _ => False
end
section
/-- does an entry say what its instruction does, by the tables -/
def okE (own : String) (sg : Sg) (cd : Cd) (pc : Nat) (en : En) : Bool := match en with
  | (ins, len, a, k, xs, g) => match ins with
    | .iload i => len == 2 && i == a
    | .iload_n i => len == 1 && i.val == a
    | .lload i => len == 2 && i == a
    | .lload_n i => len == 1 && i.val == a
    | .aload i => len == 2 && i == a
    | .aload_n i => len == 1 && i.val == a
    | .istore i => len == 2 && i == a && decide (a < sg.2.2.1)
    | .istore_n i => len == 1 && i.val == a && decide (a < sg.2.2.1)
    | .lstore i => len == 2 && i == a && decide (a + 1 < sg.2.2.1)
    | .lstore_n i => len == 1 && i.val == a && decide (a + 1 < sg.2.2.1)
    | .astore i => len == 2 && i == a && decide (a < sg.2.2.1)
    | .astore_n i => len == 1 && i.val == a && decide (a < sg.2.2.1)
    | .iconst n => len == 1 && decide (Int32.ofInt n = kI a k)
    | .bipush n => len == 2 && decide ((Int8.ofInt n).toInt32 = kI a k)
    | .sipush n => len == 3 && decide ((Int16.ofInt n).toInt32 = kI a k)
    | .ldc i => len == 2 && inT (xs.headD 0) (.constant own i (kI a k))
    | .ldc_w i => len == 3 && inT (xs.headD 0) (.constant own i (kI a k))
    | .lconst n => len == 1 && decide (Int64.ofNat n.val = kL a k)
    | .ldc2_w i => len == 3 && inT (xs.headD 0) (.constantLong own i (kL a k))
    | .ifCond _ o => len == 3 && decide ((pc : Int) + o = (pcOf cd a : Int))
    | .if_icmp _ o => len == 3 && decide ((pc : Int) + o = (pcOf cd a : Int))
    | .goto o => len == 3 && decide ((pc : Int) + o = (pcOf cd a : Int))
    | .iinc i n => len == 3 && i == a && decide (a < sg.2.2.1) && decide (Int32.ofInt n = kI k (xs.headD 0))
    | .getfield i => len == 3 && decide (a < 9) && decide (k < NF a) && (match wCl[a]? with
        | some r => inT (xs.headD 0) (.fieldLink own i (r.2.1 k).1 (r.2.1 k).2.1 (r.2.1 k).2.2.1)
        | none => false)
    | .putfield i => len == 3 && decide (a < 9) && decide (k < NF a) && (match wCl[a]? with
        | some r => inT (xs.headD 0) (.fieldLink own i (r.2.1 k).1 (r.2.1 k).2.1 (r.2.1 k).2.2.1) && decide ((r.2.1 k).2.2.2 = false) && (decide (tyf r.2.1 k = .int) || (isZ a k && decide (tyf r.2.1 k = .boolean)))
        | none => false)
    | .tableswitch df lo hi os => decide ((pc : Int) + df = (pcOf cd a : Int)) && decide (lo = 0) && decide (hi + 1 = (xs.length : Int)) && decide (os.size = xs.length) && decide (xs.length < 1000) && (List.range xs.length).all (fun j => decide ((pc : Int) + os.getD j 0 = (pcOf cd (xs.getD j 0) : Int)))
    | .invokevirtual i => len == 3 && decide (k < 9) && (match wCl[k]? with
        | some r => decide (g.1.cls = r.1)
        | none => false) && inT (xs.getD 0 0) (.methodLink own i g.1) && inT (xs.getD 1 0) (.instanceMethod g.1) && inT (xs.getD 2 0) (.selects g.1.cls g.1 g.1) && inT (xs.getD 3 0) (.initialized g.1.cls) && inT (xs.getD 4 0) (.code g.1 g.2.1 g.2.2.1 g.2.2.2) && decide (g.2.2.1 ≤ 20) && decide (g.1.cls ≠ "java/lang/invoke/MethodHandle" ∧ g.1.cls ≠ "java/lang/invoke/VarHandle") && decide ((parseMethodDescriptor g.1.desc).map (fun d => d.parameters.length) = some a)
    | .invokestatic i => len == 3 && (if k = 3 then inT (xs.getD 0 0) (.methodLink own i arraycopyName) && inT (xs.getD 1 0) (.native arraycopyName) && inT (xs.getD 2 0) (.static arraycopyName) && inT (xs.getD 3 0) (.initialized "java/lang/System")
        else if k = 4 then inT (xs.getD 0 0) (.methodLink own i Lib.Math.max.name) && inT (xs.getD 1 0) (.static Lib.Math.max.name) && inT (xs.getD 3 0) (.initialized "java/lang/Math") && inT (xs.getD 4 0) (.code Lib.Math.max.name Lib.Math.max.code 2 (some .int))
        else if k = 5 then inT (xs.getD 0 0) (.methodLink own i Lib.Math.min.name) && inT (xs.getD 1 0) (.static Lib.Math.min.name) && inT (xs.getD 3 0) (.initialized "java/lang/Math") && inT (xs.getD 4 0) (.code Lib.Math.min.name Lib.Math.min.code 2 (some .int))
        else if k = 6 then inT (xs.getD 0 0) (.methodLink own i Lib.MathLoose.max_long.x) && inT (xs.getD 1 0) (.static Lib.MathLoose.max_long.x) && inT (xs.getD 3 0) (.initialized "java/lang/Math") && inT (xs.getD 4 0) (.code Lib.MathLoose.max_long.x Lib.MathLoose.max_long.code 4 (some .long))
        else (if k = 2 then inN (xs.getD 0 0) (.methodLinkNest own i g.1 RW) else inT (xs.getD 0 0) (.methodLink own i g.1)) && inT (xs.getD 1 0) (.static g.1) && inT (xs.getD 3 0) (.initialized g.1.cls) && inT (xs.getD 4 0) (.code g.1 g.2.1 g.2.2.1 g.2.2.2) && decide (g.2.2.1 ≤ 20) && decide (g.1.cls ≠ "java/lang/invoke/MethodHandle" ∧ g.1.cls ≠ "java/lang/invoke/VarHandle") && decide ((parseMethodDescriptor g.1.desc).map (fun d => d.parameters.length) = some a))
    | .ireturn => len == 1 && (decide (sg.2.2.2 = some .int) || (k == 1 && decide (sg.2.2.2 = some .boolean)))
    | .lreturn => len == 1 && decide (sg.2.2.2 = some .long)
    | .return_ => len == 1 && decide (sg.2.2.2 = none)
    | _ => len == 1
def okRest (own : String) (sg : Sg) (cd : Cd) : Nat → List En → Nat → Bool
  | pc, [], nxt => pc == nxt
  | pc, en :: r, nxt => decide (decode sg.2.1 pc = .ok (en.1, en.2.1)) && okE own sg cd pc en && okRest own sg cd (pc + en.2.1) r nxt
def okM (Y : Mth) : Bool := decide (plainName Y.1.1.cls = true) && decide (Y.1.1.cls = Y.2.1) && decide (pcOf Y.2.2 0 = 0) && (List.range (Y.2.2.length - 1)).all (fun b => okRest Y.2.1 Y.1 Y.2.2 (pcOf Y.2.2 b) (esOf Y.2.2 b) (pcOf Y.2.2 (b + 1)))
theorem nfw : nativeFrameWords "java/lang/System" "arraycopy" 5 ≤ 20 := by decide +kernel
theorem wCl_mem {a : Nat} {r : vw_C} (h : wCl[a]? = some r) : r ∈ wCl := List.mem_of_getElem? h
theorem wCl_nf {a : Nat} {r : vw_C} (h : wCl[a]? = some r) (ha : a < 9) : r.2.2 = NF a := by
  obtain ⟨C, T, h1⟩ := wCl_NF a ha
  rw [h] at h1
  cases h1
  rfl
theorem fv_vv (X : WX) (u : Mem) (a i k : Nat) : fv X (u.1 a i) a i k = vv X (fm u a i k) := by
  unfold fv fm
  cases fk a k with
  | none => rfl
  | some q => obtain ⟨c, _ | z⟩ := q <;> rfl
theorem kA_at (X : WX) : (tyx X)[0]? = some (X.kA 0, .int) := rfl
theorem ra_ty : ∀ c, c < 49 → ∀ q, ra c = some q → ∃ C, ∀ X : WX, (tyx X)[q.2.2.2]? = some (X.kA q.2.2.2, .object C) := by
  intro c hc q hq
  unfold ra at hq
  split at hq <;> first | (cases hq; exact ⟨_, fun X => rfl⟩) | cases hq
section GOW
variable {d : Nat} {X : WX} {Y : Mth} {Q : Option MV → Mem → Prop} {p : Program} {l : Launch} {e : Env} {R : Room} {s : State} {m : MethodId} {args : Array Value} {below : List Frame} {meth : Method} {c : Code} {cells slots : Nat} {G : State → Prop}
/-- behind a call -/
theorem call_W {H : Heap} {locs : List Loc} {pc : Nat} {ls : Array Slot} {st : List Value} {t : List MV} {Qr : Option MV → Mem → Prop} {aa : Array Value}
    (hr : va_Run p l e R s m args below meth c H locs cells slots 0 0 (F0 m pc ls st) (t.map (vv X)) (okQc X Qr aa) (AX X)) (hS : va_S (AX X) s.heap H locs)
    (kk : ∀ (r : Option MV) (u : Mem) (H1 : Heap) (locs1 : List Loc), Qr r u → va_P X.D wCl (wsx X u) H1 → va_S (AX X) s.heap H1 locs1 → W p l e R s m args below meth c H1 locs1 cells slots G (F0 m (pc + 3) ls ((pushR r t).map (vv X)))) : W p l e R s m args below meth c H locs cells slots G (F0 m pc ls st) := by
  intro T hT XX
  obtain ⟨v, st₀, t1, T', L, h0, X', hL, e1, e2, ⟨⟨r, u, hv, hp, hb⟩, hz, hk⟩, st2⟩ := hr T hT XX
  cases hv
  rw [h0] at hz hk
  obtain ⟨t2, a1, b1⟩ := kk r u T'.heap (locs ++ L) hp (by rw [e1]; exact hb)
    ⟨Nat.le_trans hS.1 (by rw [e1]; exact hz), fun q h1 h2 => by rw [e1, hk q (Nat.lt_of_lt_of_le h1 hS.1) h2]; exact hS.2.1 q h1 h2, fun q hq => by
      rcases List.mem_append.mp hq with h | h
      · exact hS.2.2 q h
      · exact hL q h⟩ T' rfl X'
  refine ⟨t2, st2 t2 ?_, b1⟩
  have : (Option.map (vv X) r).toList ++ List.map (vv X) t = (pushR r t).map (vv X) := by cases r <;> rfl
  rw [this]
  exact a1
set_option maxHeartbeats 4000000 in
set_option maxRecDepth 100000 in
theorem go_W (C0 : Ctx (d + 1) X Y Q p l e R s m args below meth c cells slots G) :
    ∀ (es : List En) (pc b : Nat) (L : List (Option MV)) (st : List MV) (u : Mem) (H : Heap) (locs : List Loc) (ls : Array Slot), okRest Y.2.1 Y.1 Y.2.2 pc es (pcOf Y.2.2 (b + 1)) = true → go d Y Q es b L st u → va_P X.D wCl (wsx X u) H → va_S (AX X) s.heap H locs → LV X ls Y.1.2.2.1 L → W p l e R s m args below meth c H locs cells slots G (F0 m pc ls (st.map (vv X))) := by
  obtain ⟨hx, hb, hml, hown, hts, hK, ⟨hI, hNW⟩, ⟨hR1, hR2, hR3, hR4⟩, hret⟩ := id C0
  have hj : ∀ {b : Nat} {L : List (Option MV)} {st : List MV} {u : Mem} {H : Heap} {locs : List Loc} {ls : Array Slot}, RunB (d + 1) Y b L st u Q → va_P X.D wCl (wsx X u) H → va_S (AX X) s.heap H locs → LV X ls Y.1.2.2.1 L → W p l e R s m args below meth c H locs cells slots G (F0 m (pcOf Y.2.2 b) ls (st.map (vv X))) := fun h hP hS hl => h X p l e R s m args below meth c cells slots G _ _ _ C0 hP hS hl
  intro es
  induction es with
  | nil =>
    intro pc b L st u H locs ls hok hgo hP hS hl
    have hpc : pc = pcOf Y.2.2 (b + 1) := by simpa [okRest] using hok
    subst hpc
    exact hj hgo hP hS hl
  | cons en r ih =>
    intro pc b L st u H locs ls hok hgo hP hS hl
    obtain ⟨ins, len, a, k, xs, g⟩ := en
    simp only [okRest, Bool.and_eq_true, decide_eq_true_eq] at hok
    obtain ⟨⟨hdec, hE⟩, hrest⟩ := hok
    cases ins
    case iload i =>
      simp only [okE, Bool.and_eq_true, beq_iff_eq] at hE
      obtain ⟨rfl, rfl⟩ := hE
      obtain ⟨x, hx1, h⟩ := oI_inv hgo
      exact lv_iload hx hb hdec (hl.at hx1) (ih _ b _ _ _ _ _ _ hrest h hP hS hl)
    case iload_n i =>
      simp only [okE, Bool.and_eq_true, beq_iff_eq] at hE
      obtain ⟨rfl, hi⟩ := hE
      obtain ⟨x, hx1, h⟩ := oI_inv hgo
      exact lv_iload_n hx hb hdec hi (hl.at hx1) (ih _ b _ _ _ _ _ _ hrest h hP hS hl)
    case lload i =>
      simp only [okE, Bool.and_eq_true, beq_iff_eq] at hE
      obtain ⟨rfl, rfl⟩ := hE
      obtain ⟨x, hx1, h⟩ := oL_inv hgo
      exact lv_lload hx hb hdec (hl.at hx1) (ih _ b _ _ _ _ _ _ hrest h hP hS hl)
    case lload_n i =>
      simp only [okE, Bool.and_eq_true, beq_iff_eq] at hE
      obtain ⟨rfl, hi⟩ := hE
      obtain ⟨x, hx1, h⟩ := oL_inv hgo
      exact lv_lload_n hx hb hdec hi (hl.at hx1) (ih _ b _ _ _ _ _ _ hrest h hP hS hl)
    case aload i =>
      simp only [okE, Bool.and_eq_true, beq_iff_eq] at hE
      obtain ⟨rfl, rfl⟩ := hE
      obtain ⟨c1, i1, hx1, h⟩ := oR_inv hgo
      exact lv_aload hx hb hdec (hl.at hx1) (ih _ b _ _ _ _ _ _ hrest h hP hS hl)
    case aload_n i =>
      simp only [okE, Bool.and_eq_true, beq_iff_eq] at hE
      obtain ⟨rfl, hi⟩ := hE
      obtain ⟨c1, i1, hx1, h⟩ := oR_inv hgo
      exact lv_aload_n hx hb hdec hi (hl.at hx1) (ih _ b _ _ _ _ _ _ hrest h hP hS hl)
    case istore i =>
      simp only [okE, Bool.and_eq_true, beq_iff_eq, decide_eq_true_eq] at hE
      obtain ⟨⟨rfl, rfl⟩, hlt⟩ := hE
      obtain ⟨x, t, rfl, h⟩ := pI_inv hgo
      obtain ⟨lv, hl1, hl2⟩ := hl
      exact lv_istore hx hb hdec hl1 hlt rfl fun ls' hl' => ih _ b _ _ _ _ _ _ hrest h hP hS (LV.st1 (v := .inl x) hl2 hl')
    case istore_n i =>
      simp only [okE, Bool.and_eq_true, beq_iff_eq, decide_eq_true_eq] at hE
      obtain ⟨⟨rfl, hi⟩, hlt⟩ := hE
      obtain ⟨x, t, rfl, h⟩ := pI_inv hgo
      obtain ⟨lv, hl1, hl2⟩ := hl
      exact lv_istore_n hx hb hdec hi hl1 hlt rfl fun ls' hl' => ih _ b _ _ _ _ _ _ hrest h hP hS (LV.st1 (v := .inl x) hl2 hl')
    case lstore i =>
      simp only [okE, Bool.and_eq_true, beq_iff_eq, decide_eq_true_eq] at hE
      obtain ⟨⟨rfl, rfl⟩, hlt⟩ := hE
      obtain ⟨x, t, rfl, h⟩ := pL_inv hgo
      obtain ⟨lv, hl1, hl2⟩ := hl
      exact lv_lstore hx hb hdec hl1 hlt rfl fun ls' hl' => ih _ b _ _ _ _ _ _ hrest h hP hS (LV.st2 (v := .inr (.inl x)) hl2 hl')
    case lstore_n i =>
      simp only [okE, Bool.and_eq_true, beq_iff_eq, decide_eq_true_eq] at hE
      obtain ⟨⟨rfl, hi⟩, hlt⟩ := hE
      obtain ⟨x, t, rfl, h⟩ := pL_inv hgo
      obtain ⟨lv, hl1, hl2⟩ := hl
      exact lv_lstore_n hx hb hdec hi hl1 hlt rfl fun ls' hl' => ih _ b _ _ _ _ _ _ hrest h hP hS (LV.st2 (v := .inr (.inl x)) hl2 hl')
    case astore i =>
      simp only [okE, Bool.and_eq_true, beq_iff_eq, decide_eq_true_eq] at hE
      obtain ⟨⟨rfl, rfl⟩, hlt⟩ := hE
      obtain ⟨c1, i1, t, rfl, h⟩ := pR_inv hgo
      obtain ⟨lv, hl1, hl2⟩ := hl
      exact lv_astore hx hb hdec hl1 hlt rfl fun ls' hl' => ih _ b _ _ _ _ _ _ hrest h hP hS (LV.st1 (v := .inr (.inr (c1, i1))) hl2 hl')
    case astore_n i =>
      simp only [okE, Bool.and_eq_true, beq_iff_eq, decide_eq_true_eq] at hE
      obtain ⟨⟨rfl, hi⟩, hlt⟩ := hE
      obtain ⟨c1, i1, t, rfl, h⟩ := pR_inv hgo
      obtain ⟨lv, hl1, hl2⟩ := hl
      exact lv_astore_n hx hb hdec hi hl1 hlt rfl fun ls' hl' => ih _ b _ _ _ _ _ _ hrest h hP hS (LV.st1 (v := .inr (.inr (c1, i1))) hl2 hl')
    case iconst n =>
      simp only [okE, Bool.and_eq_true, beq_iff_eq, decide_eq_true_eq] at hE
      obtain ⟨rfl, hv⟩ := hE
      exact lv_iconst hx hb hdec hv (ih _ b _ _ _ _ _ _ hrest hgo hP hS hl)
    case bipush n =>
      simp only [okE, Bool.and_eq_true, beq_iff_eq, decide_eq_true_eq] at hE
      obtain ⟨rfl, hv⟩ := hE
      exact lv_bipush hx hb hdec hv (ih _ b _ _ _ _ _ _ hrest hgo hP hS hl)
    case sipush n =>
      simp only [okE, Bool.and_eq_true, beq_iff_eq, decide_eq_true_eq] at hE
      obtain ⟨rfl, hv⟩ := hE
      exact lv_sipush hx hb hdec hv (ih _ b _ _ _ _ _ _ hrest hgo hP hS hl)
    case ldc n =>
      simp only [okE, Bool.and_eq_true, beq_iff_eq] at hE
      obtain ⟨rfl, hv⟩ := hE
      exact lv_ldc hx hb hown (hts _ (inT_mem hv)) hdec (ih _ b _ _ _ _ _ _ hrest hgo hP hS hl)
    case ldc_w n =>
      simp only [okE, Bool.and_eq_true, beq_iff_eq] at hE
      obtain ⟨rfl, hv⟩ := hE
      exact lv_ldcw hx hb hown (hts _ (inT_mem hv)) hdec (ih _ b _ _ _ _ _ _ hrest hgo hP hS hl)
    case lconst n =>
      simp only [okE, Bool.and_eq_true, beq_iff_eq, decide_eq_true_eq] at hE
      obtain ⟨rfl, hv⟩ := hE
      exact lv_lconst hx hb hdec hv (ih _ b _ _ _ _ _ _ hrest hgo hP hS hl)
    case ldc2_w n =>
      simp only [okE, Bool.and_eq_true, beq_iff_eq] at hE
      obtain ⟨rfl, hv⟩ := hE
      exact lv_ldc2 hx hb hown (hts _ (inT_mem hv)) hdec (ih _ b _ _ _ _ _ _ hrest hgo hP hS hl)
    case iadd =>
      have hlen : len = 1 := by simpa [okE] using hE
      subst hlen
      obtain ⟨y, t, rfl, h⟩ := pI_inv hgo
      obtain ⟨x, t, rfl, h⟩ := pI_inv h
      exact lv_iadd hx hb hdec (ih _ b _ _ _ _ _ _ hrest h hP hS hl)
    case isub =>
      have hlen : len = 1 := by simpa [okE] using hE
      subst hlen
      obtain ⟨y, t, rfl, h⟩ := pI_inv hgo
      obtain ⟨x, t, rfl, h⟩ := pI_inv h
      exact lv_isub hx hb hdec (ih _ b _ _ _ _ _ _ hrest h hP hS hl)
    case imul =>
      have hlen : len = 1 := by simpa [okE] using hE
      subst hlen
      obtain ⟨y, t, rfl, h⟩ := pI_inv hgo
      obtain ⟨x, t, rfl, h⟩ := pI_inv h
      exact lv_imul hx hb hdec (ih _ b _ _ _ _ _ _ hrest h hP hS hl)
    case idiv =>
      have hlen : len = 1 := by simpa [okE] using hE
      subst hlen
      obtain ⟨y, t, rfl, h⟩ := pI_inv hgo
      obtain ⟨x, t, rfl, h⟩ := pI_inv h
      exact lv_idiv hx hb hdec h.1 (ih _ b _ _ _ _ _ _ hrest h.2 hP hS hl)
    case irem =>
      have hlen : len = 1 := by simpa [okE] using hE
      subst hlen
      obtain ⟨y, t, rfl, h⟩ := pI_inv hgo
      obtain ⟨x, t, rfl, h⟩ := pI_inv h
      exact lv_irem hx hb hdec h.1 (ih _ b _ _ _ _ _ _ hrest h.2 hP hS hl)
    case iand =>
      have hlen : len = 1 := by simpa [okE] using hE
      subst hlen
      obtain ⟨y, t, rfl, h⟩ := pI_inv hgo
      obtain ⟨x, t, rfl, h⟩ := pI_inv h
      exact lv_iand hx hb hdec (ih _ b _ _ _ _ _ _ hrest h hP hS hl)
    case ior =>
      have hlen : len = 1 := by simpa [okE] using hE
      subst hlen
      obtain ⟨y, t, rfl, h⟩ := pI_inv hgo
      obtain ⟨x, t, rfl, h⟩ := pI_inv h
      exact lv_ior hx hb hdec (ih _ b _ _ _ _ _ _ hrest h hP hS hl)
    case ishl =>
      have hlen : len = 1 := by simpa [okE] using hE
      subst hlen
      obtain ⟨y, t, rfl, h⟩ := pI_inv hgo
      obtain ⟨x, t, rfl, h⟩ := pI_inv h
      exact lv_ishl hx hb hdec (ih _ b _ _ _ _ _ _ hrest h hP hS hl)
    case ishr =>
      have hlen : len = 1 := by simpa [okE] using hE
      subst hlen
      obtain ⟨y, t, rfl, h⟩ := pI_inv hgo
      obtain ⟨x, t, rfl, h⟩ := pI_inv h
      exact lv_ishr hx hb hdec (ih _ b _ _ _ _ _ _ hrest h hP hS hl)
    case iushr =>
      have hlen : len = 1 := by simpa [okE] using hE
      subst hlen
      obtain ⟨y, t, rfl, h⟩ := pI_inv hgo
      obtain ⟨x, t, rfl, h⟩ := pI_inv h
      exact lv_iushr hx hb hdec rfl (ih _ b _ _ _ _ _ _ hrest h hP hS hl)
    case i2l =>
      have hlen : len = 1 := by simpa [okE] using hE
      subst hlen
      obtain ⟨x, t, rfl, h⟩ := pI_inv hgo
      exact lv_i2l hx hb hdec rfl (ih _ b _ _ _ _ _ _ hrest h hP hS hl)
    case i2b =>
      have hlen : len = 1 := by simpa [okE] using hE
      subst hlen
      obtain ⟨x, t, rfl, h⟩ := pI_inv hgo
      exact lv_i2b hx hb hdec rfl (ih _ b _ _ _ _ _ _ hrest h hP hS hl)
    case i2s =>
      have hlen : len = 1 := by simpa [okE] using hE
      subst hlen
      obtain ⟨x, t, rfl, h⟩ := pI_inv hgo
      exact lv_i2s hx hb hdec rfl (ih _ b _ _ _ _ _ _ hrest h hP hS hl)
    case ladd =>
      have hlen : len = 1 := by simpa [okE] using hE
      subst hlen
      obtain ⟨y, t, rfl, h⟩ := pL_inv hgo
      obtain ⟨x, t, rfl, h⟩ := pL_inv h
      exact lv_ladd hx hb hdec (ih _ b _ _ _ _ _ _ hrest h hP hS hl)
    case lsub =>
      have hlen : len = 1 := by simpa [okE] using hE
      subst hlen
      obtain ⟨y, t, rfl, h⟩ := pL_inv hgo
      obtain ⟨x, t, rfl, h⟩ := pL_inv h
      exact lv_lsub hx hb hdec (ih _ b _ _ _ _ _ _ hrest h hP hS hl)
    case lmul =>
      have hlen : len = 1 := by simpa [okE] using hE
      subst hlen
      obtain ⟨y, t, rfl, h⟩ := pL_inv hgo
      obtain ⟨x, t, rfl, h⟩ := pL_inv h
      exact lv_lmul hx hb hdec (ih _ b _ _ _ _ _ _ hrest h hP hS hl)
    case ldiv =>
      have hlen : len = 1 := by simpa [okE] using hE
      subst hlen
      obtain ⟨y, t, rfl, h⟩ := pL_inv hgo
      obtain ⟨x, t, rfl, h⟩ := pL_inv h
      exact lv_ldiv hx hb hdec h.1 (ih _ b _ _ _ _ _ _ hrest h.2 hP hS hl)
    case lrem =>
      have hlen : len = 1 := by simpa [okE] using hE
      subst hlen
      obtain ⟨y, t, rfl, h⟩ := pL_inv hgo
      obtain ⟨x, t, rfl, h⟩ := pL_inv h
      exact lv_lrem hx hb hdec h.1 (ih _ b _ _ _ _ _ _ hrest h.2 hP hS hl)
    case lshl =>
      have hlen : len = 1 := by simpa [okE] using hE
      subst hlen
      obtain ⟨y, t, rfl, h⟩ := pI_inv hgo
      obtain ⟨x, t, rfl, h⟩ := pL_inv h
      exact lv_lshl hx hb hdec rfl (ih _ b _ _ _ _ _ _ hrest h hP hS hl)
    case lcmp =>
      have hlen : len = 1 := by simpa [okE] using hE
      subst hlen
      obtain ⟨y, t, rfl, h⟩ := pL_inv hgo
      obtain ⟨x, t, rfl, h⟩ := pL_inv h
      exact W.lcmp hx hb hdec (ih _ b _ _ _ _ _ _ hrest h hP hS hl)
    case ifCond cnd o =>
      simp only [okE, Bool.and_eq_true, beq_iff_eq, decide_eq_true_eq] at hE
      obtain ⟨rfl, ht⟩ := hE
      cases cnd
      case eq =>
        obtain ⟨x, t, rfl, h⟩ := pI_inv hgo
        exact lv_if_eq hx hb hdec ht (fun q => hj (h.1 q) hP hS hl) (fun q => ih _ b _ _ _ _ _ _ hrest (h.2 q) hP hS hl)
      case ne =>
        obtain ⟨x, t, rfl, h⟩ := pI_inv hgo
        exact lv_if_ne hx hb hdec ht (fun q => hj (h.1 q) hP hS hl) (fun q => ih _ b _ _ _ _ _ _ hrest (h.2 q) hP hS hl)
      case lt =>
        obtain ⟨x, t, rfl, h⟩ := pI_inv hgo
        exact lv_if_lt hx hb hdec ht (fun q => hj (h.1 q) hP hS hl) (fun q => ih _ b _ _ _ _ _ _ hrest (h.2 q) hP hS hl)
      case ge =>
        obtain ⟨x, t, rfl, h⟩ := pI_inv hgo
        exact lv_if_ge hx hb hdec ht (fun q => hj (h.1 q) hP hS hl) (fun q => ih _ b _ _ _ _ _ _ hrest (h.2 q) hP hS hl)
      case gt =>
        obtain ⟨x, t, rfl, h⟩ := pI_inv hgo
        exact lv_if_gt hx hb hdec ht (fun q => hj (h.1 q) hP hS hl) (fun q => ih _ b _ _ _ _ _ _ hrest (h.2 q) hP hS hl)
      case le =>
        obtain ⟨x, t, rfl, h⟩ := pI_inv hgo
        exact lv_if_le hx hb hdec ht (fun q => hj (h.1 q) hP hS hl) (fun q => ih _ b _ _ _ _ _ _ hrest (h.2 q) hP hS hl)
    case if_icmp cnd o =>
      simp only [okE, Bool.and_eq_true, beq_iff_eq, decide_eq_true_eq] at hE
      obtain ⟨rfl, ht⟩ := hE
      cases cnd
      case eq =>
        obtain ⟨y, t, rfl, h⟩ := pI_inv hgo
        obtain ⟨x, t, rfl, h⟩ := pI_inv h
        exact lv_icmp_eq hx hb hdec ht (fun q => hj (h.1 q) hP hS hl) (fun q => ih _ b _ _ _ _ _ _ hrest (h.2 q) hP hS hl)
      case ne =>
        obtain ⟨y, t, rfl, h⟩ := pI_inv hgo
        obtain ⟨x, t, rfl, h⟩ := pI_inv h
        exact lv_icmp_ne hx hb hdec ht (fun q => hj (h.1 q) hP hS hl) (fun q => ih _ b _ _ _ _ _ _ hrest (h.2 q) hP hS hl)
      case lt =>
        obtain ⟨y, t, rfl, h⟩ := pI_inv hgo
        obtain ⟨x, t, rfl, h⟩ := pI_inv h
        exact lv_icmp_lt hx hb hdec ht (fun q => hj (h.1 q) hP hS hl) (fun q => ih _ b _ _ _ _ _ _ hrest (h.2 q) hP hS hl)
      case ge =>
        obtain ⟨y, t, rfl, h⟩ := pI_inv hgo
        obtain ⟨x, t, rfl, h⟩ := pI_inv h
        exact lv_icmp_ge hx hb hdec ht (fun q => hj (h.1 q) hP hS hl) (fun q => ih _ b _ _ _ _ _ _ hrest (h.2 q) hP hS hl)
      case gt =>
        obtain ⟨y, t, rfl, h⟩ := pI_inv hgo
        obtain ⟨x, t, rfl, h⟩ := pI_inv h
        exact lv_icmp_gt hx hb hdec ht (fun q => hj (h.1 q) hP hS hl) (fun q => ih _ b _ _ _ _ _ _ hrest (h.2 q) hP hS hl)
      case le =>
        obtain ⟨y, t, rfl, h⟩ := pI_inv hgo
        obtain ⟨x, t, rfl, h⟩ := pI_inv h
        exact lv_icmp_le hx hb hdec ht (fun q => hj (h.1 q) hP hS hl) (fun q => ih _ b _ _ _ _ _ _ hrest (h.2 q) hP hS hl)
    case goto o =>
      simp only [okE, Bool.and_eq_true, beq_iff_eq, decide_eq_true_eq] at hE
      obtain ⟨rfl, ht⟩ := hE
      exact lv_goto hx hb hdec ht (hj hgo hP hS hl)
    case iinc i n =>
      simp only [okE, Bool.and_eq_true, beq_iff_eq, decide_eq_true_eq] at hE
      obtain ⟨⟨⟨rfl, rfl⟩, hlt⟩, hv⟩ := hE
      obtain ⟨x, hx1, h⟩ := oI_inv hgo
      obtain ⟨lv, hl1, hl2⟩ := hl
      obtain ⟨k1, hk1⟩ := List.getElem?_of_mem (hl2 _ _ hx1)
      exact lv_iinc hx hb hdec hl1 hk1 (by rw [hv]) hlt rfl fun ls' hl' => ih _ b _ _ _ _ _ _ hrest h hP hS (LV.st1 (v := .inl _) hl2 hl')
    case dup =>
      have hlen : len = 1 := by simpa [okE] using hE
      subst hlen
      have hgo1 : pA st (fun v t => go d Y Q r b L (v :: v :: t) u) := hgo
      obtain ⟨v, t, rfl, h0, h⟩ := pA_inv hgo1
      exact lv_dup hx hb hdec (by rw [vv_cat, h0]; rfl) (ih _ b _ _ _ _ _ _ hrest h hP hS hl)
    case dup2 =>
      have hlen : len = 1 := by simpa [okE] using hE
      subst hlen
      have hgo1 : pA st (fun v t => pA t fun w t => go d Y Q r b L (v :: w :: v :: w :: t) u) := hgo
      obtain ⟨v, t, rfl, h0, h⟩ := pA_inv hgo1
      obtain ⟨w, t, rfl, h1, h⟩ := pA_inv h
      exact lv_dup2_11 hx hb hdec (by rw [vv_cat, h0]; rfl) (by rw [vv_cat, h1]; rfl) (ih _ b _ _ _ _ _ _ hrest h hP hS hl)
    case pop =>
      have hlen : len = 1 := by simpa [okE] using hE
      subst hlen
      have hgo1 : pA st (fun _ t => go d Y Q r b L t u) := hgo
      obtain ⟨v, t, rfl, h0, h⟩ := pA_inv hgo1
      exact lv_pop hx hb hdec (by rw [vv_cat, h0]; rfl) (ih _ b _ _ _ _ _ _ hrest h hP hS hl)
    case getfield i =>
      simp only [okE, Bool.and_eq_true, beq_iff_eq, decide_eq_true_eq] at hE
      obtain ⟨⟨⟨rfl, ha9⟩, hkF⟩, hln⟩ := hE
      obtain ⟨c1, i1, t, rfl, rfl, hi1, h⟩ := pR_inv hgo
      cases hr : wCl[c1]? with
      | none => rw [hr] at hln; cases hln
      | some q =>
        rw [hr] at hln
        obtain ⟨C, T, N⟩ := q
        have hN : N = NF c1 := wCl_nf hr ha9
        subst hN
        refine va_get (D := X.D) (ci := c1) (C := C) (T := T) (N := NF c1) hx hb hts (wCl_in _ (wCl_mem hr)) hown hK hP (off c1 + i1) (by rw [wsx_at X u hi1, cellF_obj X _ _ i1 ha9]) hr k hkF (hts _ (inT_mem hln)) (fun _ h9 => h9) (v := vv X (fm u c1 i1 k)) (by rw [List.getElem?_map, List.getElem?_range hkF]; simp [fv_vv]) hdec ?_
        exact ih _ b _ (fm u c1 i1 k :: t) _ _ _ _ hrest h hP hS hl
    case putfield i =>
      simp only [okE, Bool.and_eq_true, beq_iff_eq, decide_eq_true_eq] at hE
      obtain ⟨⟨⟨rfl, ha9⟩, hkF⟩, hln⟩ := hE
      obtain ⟨v, t, rfl, h⟩ := pI_inv hgo
      obtain ⟨c1, i1, t, rfl, rfl, hi1, hfk, hz, h⟩ := pR_inv h
      cases hr : wCl[c1]? with
      | none => rw [hr] at hln; cases hln
      | some q =>
        rw [hr] at hln
        obtain ⟨C, T, N⟩ := q
        have hN : N = NF c1 := wCl_nf hr ha9
        subst hN
        simp only [Bool.and_eq_true, Bool.or_eq_true, decide_eq_true_eq] at hln
        obtain ⟨⟨hlk, hfin⟩, hty⟩ := hln
        have hnar : narrow (tyf T k) (.int v) = .int v := by
          rcases hty with hty | ⟨hz1, hty⟩
          · rw [hty]; rfl
          · rw [hty]
            rcases hz hz1 with rfl | rfl <;> decide
        have hfit : fits (tyf T k) (.int v) = true := by
          rcases hty with hty | ⟨hz1, hty⟩
          · rw [hty]; rfl
          · rw [hty]
            rcases hz hz1 with rfl | rfl <;> decide
        refine va_put (D := X.D) (ci := c1) (v := .int v) (ty := tyf T k) (C := C) (T := T) (N := NF c1) hx hb hts (wCl_in _ (wCl_mem hr)) (tyf T) (wCl_ty _ (wCl_mem hr)) (wCl_nm _ (wCl_mem hr)) hown hK hP (wsx_D hI u) hS (off c1 + i1) (by rw [wsx_at X u hi1, cellF_obj X _ _ i1 ha9]) hr k hkF (hts _ (inT_mem hlk)) (fun _ h9 => h9) hfin (wCl_ty _ (wCl_mem hr) k hkF) hnar hfit (by simpa using hkF) hdec (fun H1 locs1 hP1 _ hS1 => ?_)
        rw [fk_set X _ c1 i1 k v hfk, wsx_wr (v := v) (j := k) hi1 _ (by rw [cellF_obj X _ _ i1 ha9])] at hP1
        exact ih _ b _ _ _ _ _ _ hrest h hP1 hS1 hl
    case iaload =>
      have hlen : len = 1 := by simpa [okE] using hE
      subst hlen
      obtain ⟨x, t, rfl, h⟩ := pI_inv hgo
      obtain ⟨c1, i1, t, rfl, hia, hi1, hv, h⟩ := pR_inv h
      have hc1 : (wsx X u)[off c1 + i1]? = some (X.ad c1 i1, .inl (X.kA 0, ln c1 i1, .inl (u.1 c1 i1))) := by rw [wsx_at X u hi1, cellF_int X _ _ i1 hia]
      exact va_iald (D := X.D) hx hb hK hP (off c1 + i1) 0 hc1 rfl hv hdec (ih _ b _ (.inl (rd u c1 i1 x.toNatClampNeg) :: t) _ _ _ _ hrest h hP hS hl)
    case iastore =>
      have hlen : len = 1 := by simpa [okE] using hE
      subst hlen
      obtain ⟨v, t, rfl, h⟩ := pI_inv hgo
      obtain ⟨x, t, rfl, h⟩ := pI_inv h
      obtain ⟨c1, i1, t, rfl, hia, hi1, hv, h⟩ := pR_inv h
      refine va_iast (D := X.D) hx hb hK hP (wsx_D hI u) hS (off c1 + i1) 0 (by rw [wsx_at X u hi1, cellF_int X _ _ i1 hia]) rfl hv hdec (fun H1 locs1 hP1 _ hS1 => ?_)
      rw [wsx_wr (v := v) (j := x.toNatClampNeg) hi1 _ (by rw [cellF_int X _ _ i1 hia])] at hP1
      exact ih _ b _ _ _ _ _ _ hrest h hP1 hS1 hl
    case laload =>
      have hlen : len = 1 := by simpa [okE] using hE
      subst hlen
      obtain ⟨x, t, rfl, h⟩ := pI_inv hgo
      obtain ⟨c1, i1, t, rfl, rfl, hi1, hv, h⟩ := pR_inv h
      have hc1 : (wsx X u)[off 30 + i1]? = some (X.ad 30 i1, .inl (X.kA 1, 2, .inr (.inl u.2))) := by rw [wsx_at X u hi1, cellF_ch]
      exact va_lald (D := X.D) hx hb hK hP (off 30 + i1) 1 hc1 rfl hv hdec (ih _ b _ (.inr (.inl (rdL u x.toNatClampNeg)) :: t) _ _ _ _ hrest h hP hS hl)
    case lastore =>
      have hlen : len = 1 := by simpa [okE] using hE
      subst hlen
      obtain ⟨v, t, rfl, h⟩ := pL_inv hgo
      obtain ⟨x, t, rfl, h⟩ := pI_inv h
      obtain ⟨c1, i1, t, rfl, rfl, hi1, hv, h⟩ := pR_inv h
      refine va_last (D := X.D) hx hb hK hP (wsx_D hI u) hS (off 30 + i1) 1 (by rw [wsx_at X u hi1, cellF_ch]) rfl hv hdec (fun H1 locs1 hP1 _ hS1 => ?_)
      rw [wsx_set (u := u) hi1 (wrL u x.toNatClampNeg v) _ (by rw [cellF_ch]; rfl) (fun a b hb hne => ?_)] at hP1
      · exact ih _ b _ _ _ _ _ _ hrest h hP1 hS1 hl
      · have ha : a ≠ 30 := by
          intro ha
          subst ha
          have : NI 30 = 1 := rfl
          rw [this] at hb hi1
          exact hne ⟨rfl, by omega⟩
        simp [cellF, ha, wrL]
    case aaload =>
      have hlen : len = 1 := by simpa [okE] using hE
      subst hlen
      obtain ⟨x, t, rfl, h⟩ := pI_inv hgo
      obtain ⟨c1, i1, t, rfl, hi1, h⟩ := pR_inv h
      cases hr : ra c1 with
      | none => rw [hr] at h; exact h.elim
      | some q =>
        rw [hr] at h
        obtain ⟨c2, o2, n2, k2⟩ := q
        obtain ⟨C, hC⟩ := ra_ty c1 (ra_lt hr) _ hr
        have hc1 : (wsx X u)[off c1 + i1]? = some (X.ad c1 i1, .inl (X.kA k2, n2, .inr (.inr (.inr (.inr (fun j => some (X.ad c2 (o2 + j)))))))) := by rw [wsx_at X u hi1, cellF_ref X _ _ i1 hr]
        exact va_aldq (D := X.D) hx hb hK hP (off c1 + i1) k2 hc1 (hC X) h.1 hdec (ih _ b _ (.inr (.inr (c2, o2 + x.toNatClampNeg)) :: t) _ _ _ _ hrest h.2 hP hS hl)
    case arraylength =>
      have hlen : len = 1 := by simpa [okE] using hE
      subst hlen
      obtain ⟨c1, i1, t, rfl, hi1, h⟩ := pR_inv hgo
      unfold alen at h
      split at h
      · next n hn =>
        split at hn
        · next hia =>
          cases hn
          have hc1 : (wsx X u)[off c1 + i1]? = some (X.ad c1 i1, .inl (X.kA 0, ln c1 i1, .inl (u.1 c1 i1))) := by rw [wsx_at X u hi1, cellF_int X _ _ i1 hia]
          exact va_alen (D := X.D) hx hb hK hP (off c1 + i1) 0 hc1 (ty := .int) rfl rfl hdec (ih _ b _ (.inl (nI (ln c1 i1)) :: t) _ _ _ _ hrest h hP hS hl)
        · split at hn
          · next q hr =>
            cases hn
            obtain ⟨c2, o2, n2, k2⟩ := q
            obtain ⟨C, hC⟩ := ra_ty c1 (ra_lt hr) _ hr
            have hc1 : (wsx X u)[off c1 + i1]? = some (X.ad c1 i1, .inl (X.kA k2, n2, .inr (.inr (.inr (.inr (fun j => some (X.ad c2 (o2 + j)))))))) := by rw [wsx_at X u hi1, cellF_ref X _ _ i1 hr]
            exact va_alen (D := X.D) hx hb hK hP (off c1 + i1) k2 hc1 (ty := .object C) (hC X) rfl hdec (ih _ b _ (.inl (nI n2) :: t) _ _ _ _ hrest h hP hS hl)
          · split at hn
            · next hch =>
              cases hn
              subst hch
              have hc1 : (wsx X u)[off 30 + i1]? = some (X.ad 30 i1, .inl (X.kA 1, 2, .inr (.inl u.2))) := by rw [wsx_at X u hi1, cellF_ch]
              exact va_alen (D := X.D) hx hb hK hP (off 30 + i1) 1 hc1 (ty := .long) rfl rfl hdec (ih _ b _ (.inl (nI 2) :: t) _ _ _ _ hrest h hP hS hl)
            · cases hn
      · exact h.elim
    case tableswitch df lo hi os =>
      simp only [okE, Bool.and_eq_true, beq_iff_eq, decide_eq_true_eq, List.all_eq_true, List.mem_range] at hE
      obtain ⟨⟨⟨⟨⟨hdf, rfl⟩, hhi⟩, hsz⟩, hbig⟩, hall⟩ := hE
      obtain ⟨x, t, rfl, h⟩ := pI_inv hgo
      have key : ∀ (bs : List Nat) (j : Nat), sw bs j x (fun b' => RunB (d + 1) Y b' L t u Q) a → j + bs.length < 2 ^ 31 → (∃ i b', bs[i]? = some b' ∧ x = nI (j + i) ∧ RunB (d + 1) Y b' L t u Q) ∨ ((∀ i, i < bs.length → x ≠ nI (j + i)) ∧ RunB (d + 1) Y a L t u Q) := by
        intro bs
        induction bs with
        | nil => intro j h _; exact Or.inr ⟨fun i hi => by simp at hi, h⟩
        | cons b1 bs ih2 =>
          intro j h hj2
          by_cases hx1 : x = nI j
          · exact Or.inl ⟨0, b1, rfl, hx1, h.1 hx1⟩
          · rcases ih2 (j + 1) (h.2 hx1) (by simp at hj2; omega) with ⟨i, b', q1, q2, q3⟩ | ⟨q1, q2⟩
            · exact Or.inl ⟨i + 1, b', q1, by rw [q2]; congr 1; omega, q3⟩
            · refine Or.inr ⟨fun i hi => ?_, q2⟩
              cases i with
              | zero => exact hx1
              | succ i => have := q1 i (by simpa using hi); rw [show j + (i + 1) = j + 1 + i by omega]; exact this
      rcases key xs 0 h (by omega) with ⟨i, b', q1, q2, q3⟩ | ⟨q1, q2⟩
      · have hi : i < xs.length := (List.getElem?_eq_some_iff.mp q1).1
        have hxi : x.toInt = (i : Int) := by rw [q2, Nat.zero_add]; exact nI_toInt (by omega)
        have ho : os[(x.toInt - 0).toNat]? = some (os.getD i 0) := by
          rw [hxi]
          have : ((i : Int) - 0).toNat = i := by omega
          rw [this]
          have hlt : i < os.size := by omega
          simp [Array.getD, hlt]
        have ht := hall i hi
        rw [show xs.getD i 0 = b' by simp [List.getD, q1]] at ht
        exact lv_tableIn hx hb hdec (by rw [hxi]; omega) (by rw [hxi]; omega) ho ht (hj q3 hP hS hl)
      · refine lv_tableOut hx hb hdec ?_ hdf (hj q2 hP hS hl)
        by_cases z : x.toInt < 0
        · exact Or.inl z
        · right
          have hnn : ¬ x < 0 := by
            intro z1
            have := Int32.lt_iff_toInt_lt.mp z1
            simp at this
            omega
          obtain ⟨j, hj1, hj2⟩ := nI_of hnn
          have : ¬ j < xs.length := fun z2 => q1 j z2 (by rw [hj2]; congr 1; omega)
          rw [hj2, nI_toInt hj1]
          omega
    case invokevirtual i =>
      simp only [okE, Bool.and_eq_true, beq_iff_eq, decide_eq_true_eq] at hE
      obtain ⟨⟨⟨⟨⟨⟨⟨⟨⟨⟨rfl, hk9⟩, hcl⟩, hl1⟩, hl2⟩, hl3⟩, hl4⟩, hl5⟩, hmx⟩, hnm⟩, hpl⟩ := hE
      obtain ⟨as, t, has, rfl, h⟩ := pops_inv _ _ _ _ hgo
      obtain ⟨c1, i1, t, rfl, rfl, hi1, hct, h⟩ := pR_inv h
      simp only [List.append_nil] at h
      cases hr : wCl[c1]? with
      | none => rw [hr] at hcl; cases hcl
      | some q =>
        rw [hr] at hcl
        simp only [decide_eq_true_eq] at hcl
        have hcode := hts _ (inT_mem hl5)
        have hG : GoodIn tg (wsG g) := by
          intro w hw
          rcases List.mem_cons.mp hw with rfl | hw
          · exact tg_goodIn2 _ (inT_mem hl5)
          · exact tg_goodIn2 w hw
        have hCB : CallB R s args Y.2.1 i g.1 g.2.1 g.2.2.1 g.2.2.2 (wsG g) (rmD d) 0 0 a := callB_of a hts hG rfl rfl rfl (hts _ (inT_mem hl4)) (hts _ (inT_mem hl1)) ⟨hnm.1, hnm.2, hpl⟩ ⟨by simp only [rmD]; omega, by simp only [rmD]; omega⟩
        refine call_W (X := X) (t := t) (va_runV (As := as.map (vv X)) (b := X.ad c1 i1) ⟨hx, hb, hml, hown, hts⟩ (h l X) (C := g.1.cls) (n := a) ⟨hCB, hts _ (inT_mem hl2), hts _ (inT_mem hl3)⟩ ⟨fun a1 U g1 mk q1 => ?_, ?_, fun U hU hW => ?_⟩ rfl (by simpa using has) (by obtain ⟨lv, hl6, -⟩ := hl; exact hl6.1) ?_ (lv_room (by rw [cats_eq]; exact hct)) hdec ⟨by simpa using hR3, by simpa using hR4⟩) hS (fun r1 u1 H1 locs1 hq hP1 hS1 => ?_)
        · exact ⟨q1.1, q1.2.1, va_K.moved (u := U) (U := U.calling g1 mk a1) (Vm.Alike.refl U.vm) q1.2.2.1, q1.2.2.2.1, NW.same (u := U) (U := U.calling g1 mk a1) rfl q1.2.2.2.2⟩
        · rw [hcl]
          exact va_recv hK hP (q0 := off c1 + i1) hr (by rw [wsx_at X u hi1, cellF_obj X _ _ i1 hk9])
        · exact ⟨rfl, by rw [hU]; exact hP, va_K.moved hW.alike hK, hI, NW.warm hW hNW⟩
        · simp [vv]
        · exact ih _ b _ _ _ _ _ _ hrest hq hP1 hS1 hl
    case invokestatic i =>
      simp only [okE, Bool.and_eq_true, beq_iff_eq] at hE
      obtain ⟨rfl, hE⟩ := hE
      by_cases hk3 : k = 3
      · rw [if_pos hk3] at hE
        simp only [Bool.and_eq_true] at hE
        obtain ⟨⟨⟨hl1, hl2⟩, hl3⟩, hl4⟩ := hE
        simp only [go, if_pos hk3] at hgo
        obtain ⟨n, t1, rfl, g1⟩ := pI_inv hgo
        obtain ⟨dp, t2, rfl, g2⟩ := pI_inv g1
        obtain ⟨c2, i2, t3, rfl, g3⟩ := pR_inv g2
        obtain ⟨sp, t4, rfl, g4⟩ := pI_inv g3
        obtain ⟨c1, i1, t, rfl, hia1, hi1, hia2, hi2, hct, h1, h2, h3, h4, h5, h⟩ := pR_inv g4
        refine va_copyi (D := X.D) hx hb (by rw [hml]; obtain ⟨lv, hl6, -⟩ := hl; exact hl6.1.symm) hown (hts _ (inT_mem hl1)) (hts _ (inT_mem hl2)) (hts _ (inT_mem hl3)) (hts _ (inT_mem hl4)) hK hP (wsx_D hI u) hS (off c1 + i1) (off c2 + i2) 0 0 (ty := .int) (by rw [wsx_at X u hi1, cellF_int X _ _ i1 hia1]) (by rw [wsx_at X u hi2, cellF_int X _ _ i2 hia2]) rfl rfl rfl h1 h2 h3 h4 h5 (fun _ _ => rfl) (by omega) (by rw [cats_eq]; have := nfw; omega) hdec (fun H1 locs1 hP1 _ hS1 => ?_)
        rw [wsx_set (u := u) hi2 (cpy u c1 i1 c2 i2 sp.toNatClampNeg dp.toNatClampNeg n.toNatClampNeg) _ (by rw [cellF_int X _ _ i2 hia2]; simp [cpy]) (fun a b _ hne => by simp [cpy, hne])] at hP1
        exact ih _ b _ _ _ _ _ _ hrest h hP1 hS1 hl
      rw [if_neg hk3] at hE
      have hls : c.maxLocals = ls.size := by rw [hml]; obtain ⟨lv, hl6, -⟩ := hl; exact hl6.1.symm
      by_cases hk4 : k = 4
      · rw [if_pos hk4] at hE
        simp only [Bool.and_eq_true] at hE
        obtain ⟨⟨⟨hl1, hl2⟩, hl3⟩, hl4⟩ := hE
        simp only [go, if_neg hk3, if_pos hk4] at hgo
        obtain ⟨y, t1, rfl, g1⟩ := pI_inv hgo
        obtain ⟨x, t, rfl, hct, h⟩ := pI_inv g1
        exact va_mmax hx hb hls hown (hts _ (inT_mem hl1)) (hts _ (inT_mem hl2)) (hts _ (inT_mem hl3)) (hts _ (inT_mem hl4)) (by omega) (by rw [cats_eq]; omega) hR3 hR4 hdec (ih _ b _ (.inl (if x < y then y else x) :: t) _ _ _ _ hrest h hP hS hl)
      rw [if_neg hk4] at hE
      by_cases hk5 : k = 5
      · rw [if_pos hk5] at hE
        simp only [Bool.and_eq_true] at hE
        obtain ⟨⟨⟨hl1, hl2⟩, hl3⟩, hl4⟩ := hE
        simp only [go, if_neg hk3, if_neg hk4, if_pos hk5] at hgo
        obtain ⟨y, t1, rfl, g1⟩ := pI_inv hgo
        obtain ⟨x, t, rfl, hct, h⟩ := pI_inv g1
        exact va_mmin hx hb hls hown (hts _ (inT_mem hl1)) (hts _ (inT_mem hl2)) (hts _ (inT_mem hl3)) (hts _ (inT_mem hl4)) (by omega) (by rw [cats_eq]; omega) hR3 hR4 hdec (ih _ b _ (.inl (if y < x then y else x) :: t) _ _ _ _ hrest h hP hS hl)
      rw [if_neg hk5] at hE
      by_cases hk6 : k = 6
      · rw [if_pos hk6] at hE
        simp only [Bool.and_eq_true] at hE
        obtain ⟨⟨⟨hl1, hl2⟩, hl3⟩, hl4⟩ := hE
        simp only [go, if_neg hk3, if_neg hk4, if_neg hk5, if_pos hk6] at hgo
        obtain ⟨y, t1, rfl, g1⟩ := pL_inv hgo
        obtain ⟨x, t, rfl, hct, h⟩ := pL_inv g1
        exact va_mmax_long hx hb hls hown (hts _ (inT_mem hl1)) (hts _ (inT_mem hl2)) (hts _ (inT_mem hl3)) (hts _ (inT_mem hl4)) (by omega) (by rw [cats_eq]; omega) hR3 hR4 hdec (ih _ b _ (.inr (.inl (if y < x then x else y)) :: t) _ _ _ _ hrest h hP hS hl)
      rw [if_neg hk6] at hE
      simp only [Bool.and_eq_true, decide_eq_true_eq] at hE
      obtain ⟨⟨⟨⟨⟨⟨hl1, hl2⟩, hl4⟩, hl5⟩, hmx⟩, hnm⟩, hpl⟩ := hE
      simp only [go, if_neg hk3, if_neg hk4, if_neg hk5, if_neg hk6] at hgo
      obtain ⟨as, t, has, rfl, hct, h⟩ := pops_inv _ _ _ _ hgo
      simp only [List.append_nil] at h
      have hG : GoodIn tg (wsG g) := by
        intro w hw
        rcases List.mem_cons.mp hw with rfl | hw
        · exact tg_goodIn2 _ (inT_mem hl5)
        · exact tg_goodIn2 w hw
      have hps : PreS s H (okPc X as u) (as.map (vv X)) := ⟨fun a1 U g1 mk q1 => ⟨q1.1, q1.2.1, va_K.moved (u := U) (U := U.calling g1 mk a1) (Vm.Alike.refl U.vm) q1.2.2.1, q1.2.2.2.1, NW.same (u := U) (U := U.calling g1 mk a1) rfl q1.2.2.2.2⟩, fun U hU hW => ⟨rfl, by rw [hU]; exact hP, va_K.moved hW.alike hK, hI, NW.warm hW hNW⟩⟩
      have hrm : (rmD d).frames + 1 ≤ R.frames ∧ 8 + (g.2.2.1 + 11) + (rmD d).locals ≤ R.locals := ⟨by simp only [rmD]; omega, by simp only [rmD]; omega⟩
      by_cases hk2 : k = 2
      · rw [if_pos hk2] at hl1
        refine call_W (X := X) (t := t) (va_runSN (As := as.map (vv X)) ⟨hx, hb, hml, hown, hts⟩ (h l X) (n := a) ⟨va_cnB a hts hG rfl rfl rfl (hNW _ (inN_mem hl1)) (hts _ (inT_mem hl4)) ⟨hnm.1, hnm.2, hpl⟩ hrm, hts _ (inT_mem hl2), trivial⟩ hps rfl (by simpa using has) (by obtain ⟨lv, hl6, -⟩ := hl; exact hl6.1) (by simp) (lv_room (by rw [cats_eq]; exact hct)) hdec ⟨by simpa using hR3, by simpa using hR4⟩) hS (fun r1 u1 H1 locs1 hq hP1 hS1 => ih _ b _ _ _ _ _ _ hrest hq hP1 hS1 hl)
      · rw [if_neg hk2] at hl1
        refine call_W (X := X) (t := t) (va_runS (As := as.map (vv X)) ⟨hx, hb, hml, hown, hts⟩ (h l X) (n := a) ⟨callB_of a hts hG rfl rfl rfl (hts _ (inT_mem hl4)) (hts _ (inT_mem hl1)) ⟨hnm.1, hnm.2, hpl⟩ hrm, hts _ (inT_mem hl2)⟩ hps rfl (by simpa using has) (by obtain ⟨lv, hl6, -⟩ := hl; exact hl6.1) (by simp) (lv_room (by rw [cats_eq]; exact hct)) hdec ⟨by simpa using hR3, by simpa using hR4⟩) hS (fun r1 u1 H1 locs1 hq hP1 hS1 => ih _ b _ _ _ _ _ _ hrest hq hP1 hS1 hl)
    case ireturn =>
      simp only [okE, Bool.and_eq_true, beq_iff_eq, Bool.or_eq_true, decide_eq_true_eq] at hE
      obtain ⟨rfl, hE⟩ := hE
      obtain ⟨v, t, rfl, rfl, hz, h⟩ := pI_inv hgo
      refine hret (some (.inl v)) u H locs ls pc h hP hS ⟨hdec, ?_⟩
      rcases hE with hE | ⟨hk, hE⟩
      · exact Or.inl hE
      · exact Or.inr ⟨hE, hz hk⟩
    case lreturn =>
      simp only [okE, Bool.and_eq_true, beq_iff_eq, decide_eq_true_eq] at hE
      obtain ⟨rfl, hE⟩ := hE
      obtain ⟨v, t, rfl, rfl, h⟩ := pL_inv hgo
      exact hret (some (.inr (.inl v))) u H locs ls pc h hP hS ⟨hdec, hE⟩
    case return_ =>
      simp only [okE, Bool.and_eq_true, beq_iff_eq, decide_eq_true_eq] at hE
      obtain ⟨rfl, hE⟩ := hE
      obtain ⟨rfl, h⟩ := hgo
      exact hret none u H locs ls pc h hP hS ⟨hdec, hE⟩
    all_goals exact absurd hgo id
end GOW
theorem okM_at {Y : Mth} (h : okM Y = true) {b : Nat} (hb : b + 1 < Y.2.2.length) : okRest Y.2.1 Y.1 Y.2.2 (pcOf Y.2.2 b) (esOf Y.2.2 b) (pcOf Y.2.2 (b + 1)) = true := by
  simp only [okM, Bool.and_eq_true, List.all_eq_true, List.mem_range] at h
  exact h.2 b (by omega)
/-- one block -/
theorem run_go {d : Nat} {Y : Mth} {b : Nat} {L : List (Option MV)} {st : List MV} {u : Mem} {Q : Option MV → Mem → Prop} (hok : okM Y = true) (hb : b + 1 < Y.2.2.length) (h : go d Y Q (esOf Y.2.2 b) b L st u) : RunB (d + 1) Y b L st u Q :=
  fun _ _ _ _ _ _ _ _ _ _ _ _ _ _ _ _ _ C0 hP hS hl => go_W C0 _ _ b _ _ _ _ _ _ (okM_at hok hb) h hP hS hl
/-- fewer known locals are enough -/
theorem run_le {d : Nat} {Y : Mth} {b : Nat} {A B : List (Option MV)} {st : List MV} {u : Mem} {Q : Option MV → Mem → Prop} (h : RunB d Y b A st u Q) (hle : leL A B) : RunB d Y b B st u Q :=
  fun _ _ _ _ _ _ _ _ _ _ _ _ _ _ _ _ _ C0 hP hS hl => h _ _ _ _ _ _ _ _ _ _ _ _ _ _ _ _ _ C0 hP hS (hl.le hle)
/-- a weaker end -/
theorem run_mono {d : Nat} {Y : Mth} {b : Nat} {L : List (Option MV)} {st : List MV} {u : Mem} {Q Q' : Option MV → Mem → Prop} (h : RunB d Y b L st u Q) (hq : ∀ r v, Q r v → Q' r v) : RunB d Y b L st u Q' :=
  fun _ _ _ _ _ _ _ _ _ _ _ _ _ _ _ _ _ C0 hP hS hl => h _ _ _ _ _ _ _ _ _ _ _ _ _ _ _ _ _ ⟨C0.1, C0.2.1, C0.2.2.1, C0.2.2.2.1, C0.2.2.2.2.1, C0.2.2.2.2.2.1, C0.2.2.2.2.2.2.1, C0.2.2.2.2.2.2.2.1, fun r u H locs ls pc q => C0.2.2.2.2.2.2.2.2 r u H locs ls pc (hq r u q)⟩ hP hS hl
/-- the locals at a method's entry -/
def argL : List MV → Nat → List (Option MV)
  | [], n => List.replicate n none
  | v :: r, n => if lgq (some v) = true then some v :: none :: argL r (n - 2) else some v :: argL r (n - 1)
theorem argL_at (X : WX) : ∀ (as : List MV) (n i j : Nat) (v : MV), lk (argL as n) j = some v → (i + j, vv X v) ∈ lv_args i (as.map (vv X)) := by
  intro as
  induction as with
  | nil =>
    intro n i j v h
    exfalso
    simp only [argL] at h
    induction n generalizing j with
    | zero => cases h
    | succ n ih => cases j with
      | zero => cases h
      | succ j => exact ih j h
  | cons w r ih =>
    intro n i j v h
    simp only [argL] at h
    simp only [List.map_cons, lv_args, vv_cat]
    by_cases hg : lgq (some w) = true
    · simp only [hg, if_true] at h ⊢
      cases j with
      | zero => cases h; exact List.mem_cons_self
      | succ j => cases j with
        | zero => cases h
        | succ j => exact List.mem_cons_of_mem _ (by have := ih (n - 2) (i + 2) j v h; rwa [show i + 2 + j = i + (j + 1 + 1) by omega] at this)
    · simp only [hg] at h ⊢
      cases j with
      | zero => cases h; exact List.mem_cons_self
      | succ j => exact List.mem_cons_of_mem _ (by have := ih (n - 1) (i + 1) j v h; rw [show i + 1 + j = i + (j + 1) by omega] at this; simpa using this)
theorem argW (X : WX) (as : List MV) : (lg_sl (as.map (vv X))).length = cats as := by
  induction as with
  | nil => rfl
  | cons v r ih =>
    have h : lg_sl ((v :: r).map (vv X)) = (if (vv X v).category = 2 then [.val (vv X v), .second] else [.val (vv X v)]) ++ lg_sl (r.map (vv X)) := by simp only [lg_sl, List.map_cons, List.flatMap_cons]
    rw [h, List.length_append, ih]
    rcases v with x | x | x <;> rfl
/-- a method by the run of its body -/
theorem OKm.of {d : Nat} {Y : Mth} {as : List MV} {u : Mem} {Q : Option MV → Mem → Prop} (hok : okM Y = true) (hn : cats as ≤ Y.1.2.2.1) (h : RunB d Y 0 (argL as Y.1.2.2.1) [] u Q) : OKm d Y.1 as u Q := by
  intro l X
  have hok1 := hok
  simp only [okM, Bool.and_eq_true, decide_eq_true_eq] at hok1
  obtain ⟨⟨⟨hpn, hcl⟩, hpc⟩, -⟩ := hok1
  refine Met.ofW (cc := Y.1.2.1) (maxL := Y.1.2.2.1) (ret := Y.1.2.2.2) hpn rfl ?_
  intro p e s m args below meth c s₁ B hml hv
  obtain ⟨rfl, hP, hK, hI, hNW⟩ := hv
  have hts := atoms_spec (ws := wsG Y.1) B.pre
  have hown : s.vm.findClass Y.2.1 = some m.cls := by rw [← hcl]; exact findClass_of_methodNamed B.named
  have hr := B.returns
  have hlocks := B.notSynchronized
  have hx := B.exec
  have hb := B.bytes
  rw [lg_entry_eq]
  have hl := lv_entry (as.map (vv X)) (n := Y.1.2.2.1) (by rw [argW]; exact hn)
  have hC : Ctx d X Y Q p l e (rmD d) s m (as.map (vv X)).toArray below meth c 0 0 (MQ below (okQc X Q) (as.map (vv X)).toArray s 0 0 (AX X)) := by
    refine ⟨hx, hb, hml, hown, fun w hw => hts w (List.mem_cons_of_mem _ hw), hK, ⟨hI, hNW⟩, ⟨Nat.le_refl _, Nat.le_refl _, Nat.le_refl _, Nat.le_refl _⟩, ?_⟩
    intro r v H locs ls pc hq hP1 hS1 hat
    rcases r with _ | x | x | x
    · exact W.vret hx hb (hr.trans hat.2) (fun t ht hW => ⟨⟨none, v, rfl, hq, by rw [ht]; exact hP1⟩, hS1.F ht⟩) hS1.2.2 hat.1
    · rcases hat.2 with hi | ⟨hz, hz2⟩
      · exact W.iret hx hb (hr.trans hi) (fun t ht hW => ⟨⟨some (.inl x), v, rfl, hq, by rw [ht]; exact hP1⟩, hS1.F ht⟩) hS1.2.2 hat.1
      · exact W.zret hx hb (hr.trans hz) (by rcases hz2 with rfl | rfl <;> decide) (fun t ht hW => ⟨⟨some (.inl x), v, rfl, hq, by rw [ht]; exact hP1⟩, hS1.F ht⟩) hS1.2.2 hat.1
    · exact W.lret hx hb (hr.trans hat.2) (fun t ht hW => ⟨⟨some (.inr (.inl x)), v, rfl, hq, by rw [ht]; exact hP1⟩, hS1.F ht⟩) hS1.2.2 hat.1
    · exact hat.elim
  have := h X p l e (rmD d) s m _ below meth c 0 0 _ s.heap [] _ hC hP va_S.rf ⟨_, hl, fun i v hi => by have := argL_at X as _ 0 i v hi; rwa [Nat.zero_add] at this⟩
  rw [hpc] at this
  exact this
end
section
theorem gr_iload {d : Nat} {Y : Mth} {Q : Option MV → Mem → Prop} {z0 : Nat} {n a k b : Nat} {xs : List Nat} {g : Sg} {r : List En} {L : List (Option MV)} {st : List MV} {u : Mem} : go d Y Q ((.iload z0, n, a, k, xs, g) :: r) b L st u = (oI (lk L a) fun x => go d Y Q r b L (.inl x :: st) u) := rfl
theorem gr_iloadn {d : Nat} {Y : Mth} {Q : Option MV → Mem → Prop} {z0 : Fin 4} {n a k b : Nat} {xs : List Nat} {g : Sg} {r : List En} {L : List (Option MV)} {st : List MV} {u : Mem} : go d Y Q ((.iload_n z0, n, a, k, xs, g) :: r) b L st u = (oI (lk L a) fun x => go d Y Q r b L (.inl x :: st) u) := rfl
theorem gr_lload {d : Nat} {Y : Mth} {Q : Option MV → Mem → Prop} {z0 : Nat} {n a k b : Nat} {xs : List Nat} {g : Sg} {r : List En} {L : List (Option MV)} {st : List MV} {u : Mem} : go d Y Q ((.lload z0, n, a, k, xs, g) :: r) b L st u = (oL (lk L a) fun x => go d Y Q r b L (.inr (.inl x) :: st) u) := rfl
theorem gr_lloadn {d : Nat} {Y : Mth} {Q : Option MV → Mem → Prop} {z0 : Fin 4} {n a k b : Nat} {xs : List Nat} {g : Sg} {r : List En} {L : List (Option MV)} {st : List MV} {u : Mem} : go d Y Q ((.lload_n z0, n, a, k, xs, g) :: r) b L st u = (oL (lk L a) fun x => go d Y Q r b L (.inr (.inl x) :: st) u) := rfl
theorem gr_aload {d : Nat} {Y : Mth} {Q : Option MV → Mem → Prop} {z0 : Nat} {n a k b : Nat} {xs : List Nat} {g : Sg} {r : List En} {L : List (Option MV)} {st : List MV} {u : Mem} : go d Y Q ((.aload z0, n, a, k, xs, g) :: r) b L st u = (oR (lk L a) fun c i => go d Y Q r b L (.inr (.inr (c, i)) :: st) u) := rfl
theorem gr_aloadn {d : Nat} {Y : Mth} {Q : Option MV → Mem → Prop} {z0 : Fin 4} {n a k b : Nat} {xs : List Nat} {g : Sg} {r : List En} {L : List (Option MV)} {st : List MV} {u : Mem} : go d Y Q ((.aload_n z0, n, a, k, xs, g) :: r) b L st u = (oR (lk L a) fun c i => go d Y Q r b L (.inr (.inr (c, i)) :: st) u) := rfl
theorem gr_istore {d : Nat} {Y : Mth} {Q : Option MV → Mem → Prop} {z0 : Nat} {n a k b : Nat} {xs : List Nat} {g : Sg} {r : List En} {L : List (Option MV)} {st : List MV} {u : Mem} : go d Y Q ((.istore z0, n, a, k, xs, g) :: r) b L st u = (pI st fun x t => go d Y Q r b (st1 L a (.inl x)) t u) := rfl
theorem gr_istoren {d : Nat} {Y : Mth} {Q : Option MV → Mem → Prop} {z0 : Fin 4} {n a k b : Nat} {xs : List Nat} {g : Sg} {r : List En} {L : List (Option MV)} {st : List MV} {u : Mem} : go d Y Q ((.istore_n z0, n, a, k, xs, g) :: r) b L st u = (pI st fun x t => go d Y Q r b (st1 L a (.inl x)) t u) := rfl
theorem gr_lstore {d : Nat} {Y : Mth} {Q : Option MV → Mem → Prop} {z0 : Nat} {n a k b : Nat} {xs : List Nat} {g : Sg} {r : List En} {L : List (Option MV)} {st : List MV} {u : Mem} : go d Y Q ((.lstore z0, n, a, k, xs, g) :: r) b L st u = (pL st fun x t => go d Y Q r b (st2 L a (.inr (.inl x))) t u) := rfl
theorem gr_lstoren {d : Nat} {Y : Mth} {Q : Option MV → Mem → Prop} {z0 : Fin 4} {n a k b : Nat} {xs : List Nat} {g : Sg} {r : List En} {L : List (Option MV)} {st : List MV} {u : Mem} : go d Y Q ((.lstore_n z0, n, a, k, xs, g) :: r) b L st u = (pL st fun x t => go d Y Q r b (st2 L a (.inr (.inl x))) t u) := rfl
theorem gr_astore {d : Nat} {Y : Mth} {Q : Option MV → Mem → Prop} {z0 : Nat} {n a k b : Nat} {xs : List Nat} {g : Sg} {r : List En} {L : List (Option MV)} {st : List MV} {u : Mem} : go d Y Q ((.astore z0, n, a, k, xs, g) :: r) b L st u = (pR st fun c i t => go d Y Q r b (st1 L a (.inr (.inr (c, i)))) t u) := rfl
theorem gr_astoren {d : Nat} {Y : Mth} {Q : Option MV → Mem → Prop} {z0 : Fin 4} {n a k b : Nat} {xs : List Nat} {g : Sg} {r : List En} {L : List (Option MV)} {st : List MV} {u : Mem} : go d Y Q ((.astore_n z0, n, a, k, xs, g) :: r) b L st u = (pR st fun c i t => go d Y Q r b (st1 L a (.inr (.inr (c, i)))) t u) := rfl
theorem gr_iconst {d : Nat} {Y : Mth} {Q : Option MV → Mem → Prop} {z0 : Int} {n a k b : Nat} {xs : List Nat} {g : Sg} {r : List En} {L : List (Option MV)} {st : List MV} {u : Mem} : go d Y Q ((.iconst z0, n, a, k, xs, g) :: r) b L st u = (go d Y Q r b L (.inl (kI a k) :: st) u) := rfl
theorem gr_bipush {d : Nat} {Y : Mth} {Q : Option MV → Mem → Prop} {z0 : Int} {n a k b : Nat} {xs : List Nat} {g : Sg} {r : List En} {L : List (Option MV)} {st : List MV} {u : Mem} : go d Y Q ((.bipush z0, n, a, k, xs, g) :: r) b L st u = (go d Y Q r b L (.inl (kI a k) :: st) u) := rfl
theorem gr_sipush {d : Nat} {Y : Mth} {Q : Option MV → Mem → Prop} {z0 : Int} {n a k b : Nat} {xs : List Nat} {g : Sg} {r : List En} {L : List (Option MV)} {st : List MV} {u : Mem} : go d Y Q ((.sipush z0, n, a, k, xs, g) :: r) b L st u = (go d Y Q r b L (.inl (kI a k) :: st) u) := rfl
theorem gr_ldc {d : Nat} {Y : Mth} {Q : Option MV → Mem → Prop} {z0 : Nat} {n a k b : Nat} {xs : List Nat} {g : Sg} {r : List En} {L : List (Option MV)} {st : List MV} {u : Mem} : go d Y Q ((.ldc z0, n, a, k, xs, g) :: r) b L st u = (go d Y Q r b L (.inl (kI a k) :: st) u) := rfl
theorem gr_ldcw {d : Nat} {Y : Mth} {Q : Option MV → Mem → Prop} {z0 : Nat} {n a k b : Nat} {xs : List Nat} {g : Sg} {r : List En} {L : List (Option MV)} {st : List MV} {u : Mem} : go d Y Q ((.ldc_w z0, n, a, k, xs, g) :: r) b L st u = (go d Y Q r b L (.inl (kI a k) :: st) u) := rfl
theorem gr_lconst {d : Nat} {Y : Mth} {Q : Option MV → Mem → Prop} {z0 : Fin 2} {n a k b : Nat} {xs : List Nat} {g : Sg} {r : List En} {L : List (Option MV)} {st : List MV} {u : Mem} : go d Y Q ((.lconst z0, n, a, k, xs, g) :: r) b L st u = (go d Y Q r b L (.inr (.inl (kL a k)) :: st) u) := rfl
theorem gr_ldc2w {d : Nat} {Y : Mth} {Q : Option MV → Mem → Prop} {z0 : Nat} {n a k b : Nat} {xs : List Nat} {g : Sg} {r : List En} {L : List (Option MV)} {st : List MV} {u : Mem} : go d Y Q ((.ldc2_w z0, n, a, k, xs, g) :: r) b L st u = (go d Y Q r b L (.inr (.inl (kL a k)) :: st) u) := rfl
theorem gr_iadd {d : Nat} {Y : Mth} {Q : Option MV → Mem → Prop}  {n a k b : Nat} {xs : List Nat} {g : Sg} {r : List En} {L : List (Option MV)} {st : List MV} {u : Mem} : go d Y Q ((.iadd, n, a, k, xs, g) :: r) b L st u = (pI st fun y t => pI t fun x t => go d Y Q r b L (.inl (x + y) :: t) u) := rfl
theorem gr_isub {d : Nat} {Y : Mth} {Q : Option MV → Mem → Prop}  {n a k b : Nat} {xs : List Nat} {g : Sg} {r : List En} {L : List (Option MV)} {st : List MV} {u : Mem} : go d Y Q ((.isub, n, a, k, xs, g) :: r) b L st u = (pI st fun y t => pI t fun x t => go d Y Q r b L (.inl (x - y) :: t) u) := rfl
theorem gr_imul {d : Nat} {Y : Mth} {Q : Option MV → Mem → Prop}  {n a k b : Nat} {xs : List Nat} {g : Sg} {r : List En} {L : List (Option MV)} {st : List MV} {u : Mem} : go d Y Q ((.imul, n, a, k, xs, g) :: r) b L st u = (pI st fun y t => pI t fun x t => go d Y Q r b L (.inl (x * y) :: t) u) := rfl
theorem gr_idiv {d : Nat} {Y : Mth} {Q : Option MV → Mem → Prop}  {n a k b : Nat} {xs : List Nat} {g : Sg} {r : List En} {L : List (Option MV)} {st : List MV} {u : Mem} : go d Y Q ((.idiv, n, a, k, xs, g) :: r) b L st u = (pI st fun y t => pI t fun x t => ¬ y = 0 ∧ go d Y Q r b L (.inl (x / y) :: t) u) := rfl
theorem gr_irem {d : Nat} {Y : Mth} {Q : Option MV → Mem → Prop}  {n a k b : Nat} {xs : List Nat} {g : Sg} {r : List En} {L : List (Option MV)} {st : List MV} {u : Mem} : go d Y Q ((.irem, n, a, k, xs, g) :: r) b L st u = (pI st fun y t => pI t fun x t => ¬ y = 0 ∧ go d Y Q r b L (.inl (irm x y) :: t) u) := rfl
theorem gr_iand {d : Nat} {Y : Mth} {Q : Option MV → Mem → Prop}  {n a k b : Nat} {xs : List Nat} {g : Sg} {r : List En} {L : List (Option MV)} {st : List MV} {u : Mem} : go d Y Q ((.iand, n, a, k, xs, g) :: r) b L st u = (pI st fun y t => pI t fun x t => go d Y Q r b L (.inl (x &&& y) :: t) u) := rfl
theorem gr_ior {d : Nat} {Y : Mth} {Q : Option MV → Mem → Prop}  {n a k b : Nat} {xs : List Nat} {g : Sg} {r : List En} {L : List (Option MV)} {st : List MV} {u : Mem} : go d Y Q ((.ior, n, a, k, xs, g) :: r) b L st u = (pI st fun y t => pI t fun x t => go d Y Q r b L (.inl (x ||| y) :: t) u) := rfl
theorem gr_ishl {d : Nat} {Y : Mth} {Q : Option MV → Mem → Prop}  {n a k b : Nat} {xs : List Nat} {g : Sg} {r : List En} {L : List (Option MV)} {st : List MV} {u : Mem} : go d Y Q ((.ishl, n, a, k, xs, g) :: r) b L st u = (pI st fun y t => pI t fun x t => go d Y Q r b L (.inl (x <<< (y &&& 31)) :: t) u) := rfl
theorem gr_ishr {d : Nat} {Y : Mth} {Q : Option MV → Mem → Prop}  {n a k b : Nat} {xs : List Nat} {g : Sg} {r : List En} {L : List (Option MV)} {st : List MV} {u : Mem} : go d Y Q ((.ishr, n, a, k, xs, g) :: r) b L st u = (pI st fun y t => pI t fun x t => go d Y Q r b L (.inl (x >>> (y &&& 31)) :: t) u) := rfl
theorem gr_iushr {d : Nat} {Y : Mth} {Q : Option MV → Mem → Prop}  {n a k b : Nat} {xs : List Nat} {g : Sg} {r : List En} {L : List (Option MV)} {st : List MV} {u : Mem} : go d Y Q ((.iushr, n, a, k, xs, g) :: r) b L st u = (pI st fun y t => pI t fun x t => go d Y Q r b L (.inl (ush x y) :: t) u) := rfl
theorem gr_i2l {d : Nat} {Y : Mth} {Q : Option MV → Mem → Prop}  {n a k b : Nat} {xs : List Nat} {g : Sg} {r : List En} {L : List (Option MV)} {st : List MV} {u : Mem} : go d Y Q ((.i2l, n, a, k, xs, g) :: r) b L st u = (pI st fun x t => go d Y Q r b L (.inr (.inl x.toInt64) :: t) u) := rfl
theorem gr_i2b {d : Nat} {Y : Mth} {Q : Option MV → Mem → Prop}  {n a k b : Nat} {xs : List Nat} {g : Sg} {r : List En} {L : List (Option MV)} {st : List MV} {u : Mem} : go d Y Q ((.i2b, n, a, k, xs, g) :: r) b L st u = (pI st fun x t => go d Y Q r b L (.inl x.toInt8.toInt32 :: t) u) := rfl
theorem gr_i2s {d : Nat} {Y : Mth} {Q : Option MV → Mem → Prop}  {n a k b : Nat} {xs : List Nat} {g : Sg} {r : List En} {L : List (Option MV)} {st : List MV} {u : Mem} : go d Y Q ((.i2s, n, a, k, xs, g) :: r) b L st u = (pI st fun x t => go d Y Q r b L (.inl x.toInt16.toInt32 :: t) u) := rfl
theorem gr_ladd {d : Nat} {Y : Mth} {Q : Option MV → Mem → Prop}  {n a k b : Nat} {xs : List Nat} {g : Sg} {r : List En} {L : List (Option MV)} {st : List MV} {u : Mem} : go d Y Q ((.ladd, n, a, k, xs, g) :: r) b L st u = (pL st fun y t => pL t fun x t => go d Y Q r b L (.inr (.inl (x + y)) :: t) u) := rfl
theorem gr_lsub {d : Nat} {Y : Mth} {Q : Option MV → Mem → Prop}  {n a k b : Nat} {xs : List Nat} {g : Sg} {r : List En} {L : List (Option MV)} {st : List MV} {u : Mem} : go d Y Q ((.lsub, n, a, k, xs, g) :: r) b L st u = (pL st fun y t => pL t fun x t => go d Y Q r b L (.inr (.inl (x - y)) :: t) u) := rfl
theorem gr_lmul {d : Nat} {Y : Mth} {Q : Option MV → Mem → Prop}  {n a k b : Nat} {xs : List Nat} {g : Sg} {r : List En} {L : List (Option MV)} {st : List MV} {u : Mem} : go d Y Q ((.lmul, n, a, k, xs, g) :: r) b L st u = (pL st fun y t => pL t fun x t => go d Y Q r b L (.inr (.inl (x * y)) :: t) u) := rfl
theorem gr_ldiv {d : Nat} {Y : Mth} {Q : Option MV → Mem → Prop}  {n a k b : Nat} {xs : List Nat} {g : Sg} {r : List En} {L : List (Option MV)} {st : List MV} {u : Mem} : go d Y Q ((.ldiv, n, a, k, xs, g) :: r) b L st u = (pL st fun y t => pL t fun x t => ¬ y = 0 ∧ go d Y Q r b L (.inr (.inl (x / y)) :: t) u) := rfl
theorem gr_lrem {d : Nat} {Y : Mth} {Q : Option MV → Mem → Prop}  {n a k b : Nat} {xs : List Nat} {g : Sg} {r : List En} {L : List (Option MV)} {st : List MV} {u : Mem} : go d Y Q ((.lrem, n, a, k, xs, g) :: r) b L st u = (pL st fun y t => pL t fun x t => ¬ y = 0 ∧ go d Y Q r b L (.inr (.inl (lrm x y)) :: t) u) := rfl
theorem gr_lshl {d : Nat} {Y : Mth} {Q : Option MV → Mem → Prop}  {n a k b : Nat} {xs : List Nat} {g : Sg} {r : List En} {L : List (Option MV)} {st : List MV} {u : Mem} : go d Y Q ((.lshl, n, a, k, xs, g) :: r) b L st u = (pI st fun y t => pL t fun x t => go d Y Q r b L (.inr (.inl (x <<< (y.toInt64 &&& 63))) :: t) u) := rfl
theorem gr_lcmp {d : Nat} {Y : Mth} {Q : Option MV → Mem → Prop}  {n a k b : Nat} {xs : List Nat} {g : Sg} {r : List En} {L : List (Option MV)} {st : List MV} {u : Mem} : go d Y Q ((.lcmp, n, a, k, xs, g) :: r) b L st u = (pL st fun y t => pL t fun x t => go d Y Q r b L (.inl (lg_cmp x y) :: t) u) := rfl
theorem gr_ifCond_eq {d : Nat} {Y : Mth} {Q : Option MV → Mem → Prop} {z0 : Int} {n a k b : Nat} {xs : List Nat} {g : Sg} {r : List En} {L : List (Option MV)} {st : List MV} {u : Mem} : go d Y Q ((.ifCond .eq z0, n, a, k, xs, g) :: r) b L st u = (pI st fun x t => (x = 0 → RunB (d + 1) Y a L t u Q) ∧ (¬ x = 0 → go d Y Q r b L t u)) := rfl
theorem gr_ifCond_ne {d : Nat} {Y : Mth} {Q : Option MV → Mem → Prop} {z0 : Int} {n a k b : Nat} {xs : List Nat} {g : Sg} {r : List En} {L : List (Option MV)} {st : List MV} {u : Mem} : go d Y Q ((.ifCond .ne z0, n, a, k, xs, g) :: r) b L st u = (pI st fun x t => (¬ x = 0 → RunB (d + 1) Y a L t u Q) ∧ (x = 0 → go d Y Q r b L t u)) := rfl
theorem gr_ifCond_lt {d : Nat} {Y : Mth} {Q : Option MV → Mem → Prop} {z0 : Int} {n a k b : Nat} {xs : List Nat} {g : Sg} {r : List En} {L : List (Option MV)} {st : List MV} {u : Mem} : go d Y Q ((.ifCond .lt z0, n, a, k, xs, g) :: r) b L st u = (pI st fun x t => (x < 0 → RunB (d + 1) Y a L t u Q) ∧ (¬ x < 0 → go d Y Q r b L t u)) := rfl
theorem gr_ifCond_ge {d : Nat} {Y : Mth} {Q : Option MV → Mem → Prop} {z0 : Int} {n a k b : Nat} {xs : List Nat} {g : Sg} {r : List En} {L : List (Option MV)} {st : List MV} {u : Mem} : go d Y Q ((.ifCond .ge z0, n, a, k, xs, g) :: r) b L st u = (pI st fun x t => (0 ≤ x → RunB (d + 1) Y a L t u Q) ∧ (¬ 0 ≤ x → go d Y Q r b L t u)) := rfl
theorem gr_ifCond_gt {d : Nat} {Y : Mth} {Q : Option MV → Mem → Prop} {z0 : Int} {n a k b : Nat} {xs : List Nat} {g : Sg} {r : List En} {L : List (Option MV)} {st : List MV} {u : Mem} : go d Y Q ((.ifCond .gt z0, n, a, k, xs, g) :: r) b L st u = (pI st fun x t => (0 < x → RunB (d + 1) Y a L t u Q) ∧ (¬ 0 < x → go d Y Q r b L t u)) := rfl
theorem gr_ifCond_le {d : Nat} {Y : Mth} {Q : Option MV → Mem → Prop} {z0 : Int} {n a k b : Nat} {xs : List Nat} {g : Sg} {r : List En} {L : List (Option MV)} {st : List MV} {u : Mem} : go d Y Q ((.ifCond .le z0, n, a, k, xs, g) :: r) b L st u = (pI st fun x t => (x ≤ 0 → RunB (d + 1) Y a L t u Q) ∧ (¬ x ≤ 0 → go d Y Q r b L t u)) := rfl
theorem gr_ificmp_eq {d : Nat} {Y : Mth} {Q : Option MV → Mem → Prop} {z0 : Int} {n a k b : Nat} {xs : List Nat} {g : Sg} {r : List En} {L : List (Option MV)} {st : List MV} {u : Mem} : go d Y Q ((.if_icmp .eq z0, n, a, k, xs, g) :: r) b L st u = (pI st fun y t => pI t fun x t => (x = y → RunB (d + 1) Y a L t u Q) ∧ (¬ x = y → go d Y Q r b L t u)) := rfl
theorem gr_ificmp_ne {d : Nat} {Y : Mth} {Q : Option MV → Mem → Prop} {z0 : Int} {n a k b : Nat} {xs : List Nat} {g : Sg} {r : List En} {L : List (Option MV)} {st : List MV} {u : Mem} : go d Y Q ((.if_icmp .ne z0, n, a, k, xs, g) :: r) b L st u = (pI st fun y t => pI t fun x t => (¬ x = y → RunB (d + 1) Y a L t u Q) ∧ (x = y → go d Y Q r b L t u)) := rfl
theorem gr_ificmp_lt {d : Nat} {Y : Mth} {Q : Option MV → Mem → Prop} {z0 : Int} {n a k b : Nat} {xs : List Nat} {g : Sg} {r : List En} {L : List (Option MV)} {st : List MV} {u : Mem} : go d Y Q ((.if_icmp .lt z0, n, a, k, xs, g) :: r) b L st u = (pI st fun y t => pI t fun x t => (x < y → RunB (d + 1) Y a L t u Q) ∧ (¬ x < y → go d Y Q r b L t u)) := rfl
theorem gr_ificmp_ge {d : Nat} {Y : Mth} {Q : Option MV → Mem → Prop} {z0 : Int} {n a k b : Nat} {xs : List Nat} {g : Sg} {r : List En} {L : List (Option MV)} {st : List MV} {u : Mem} : go d Y Q ((.if_icmp .ge z0, n, a, k, xs, g) :: r) b L st u = (pI st fun y t => pI t fun x t => (y ≤ x → RunB (d + 1) Y a L t u Q) ∧ (¬ y ≤ x → go d Y Q r b L t u)) := rfl
theorem gr_ificmp_gt {d : Nat} {Y : Mth} {Q : Option MV → Mem → Prop} {z0 : Int} {n a k b : Nat} {xs : List Nat} {g : Sg} {r : List En} {L : List (Option MV)} {st : List MV} {u : Mem} : go d Y Q ((.if_icmp .gt z0, n, a, k, xs, g) :: r) b L st u = (pI st fun y t => pI t fun x t => (y < x → RunB (d + 1) Y a L t u Q) ∧ (¬ y < x → go d Y Q r b L t u)) := rfl
theorem gr_ificmp_le {d : Nat} {Y : Mth} {Q : Option MV → Mem → Prop} {z0 : Int} {n a k b : Nat} {xs : List Nat} {g : Sg} {r : List En} {L : List (Option MV)} {st : List MV} {u : Mem} : go d Y Q ((.if_icmp .le z0, n, a, k, xs, g) :: r) b L st u = (pI st fun y t => pI t fun x t => (x ≤ y → RunB (d + 1) Y a L t u Q) ∧ (¬ x ≤ y → go d Y Q r b L t u)) := rfl
theorem gr_goto {d : Nat} {Y : Mth} {Q : Option MV → Mem → Prop} {z0 : Int} {n a k b : Nat} {xs : List Nat} {g : Sg} {r : List En} {L : List (Option MV)} {st : List MV} {u : Mem} : go d Y Q ((.goto z0, n, a, k, xs, g) :: r) b L st u = (RunB (d + 1) Y a L st u Q) := rfl
theorem gr_iinc {d : Nat} {Y : Mth} {Q : Option MV → Mem → Prop} {z0 : Nat} {z1 : Int} {n a k b : Nat} {xs : List Nat} {g : Sg} {r : List En} {L : List (Option MV)} {st : List MV} {u : Mem} : go d Y Q ((.iinc z0 z1, n, a, k, xs, g) :: r) b L st u = (oI (lk L a) fun x => go d Y Q r b (st1 L a (.inl (x + kI k (xs.headD 0)))) st u) := rfl
theorem gr_dup {d : Nat} {Y : Mth} {Q : Option MV → Mem → Prop}  {n a k b : Nat} {xs : List Nat} {g : Sg} {r : List En} {L : List (Option MV)} {st : List MV} {u : Mem} : go d Y Q ((.dup, n, a, k, xs, g) :: r) b L st u = (pA st fun v t => go d Y Q r b L (v :: v :: t) u) := rfl
theorem gr_dup2 {d : Nat} {Y : Mth} {Q : Option MV → Mem → Prop}  {n a k b : Nat} {xs : List Nat} {g : Sg} {r : List En} {L : List (Option MV)} {st : List MV} {u : Mem} : go d Y Q ((.dup2, n, a, k, xs, g) :: r) b L st u = (pA st fun v t => pA t fun w t => go d Y Q r b L (v :: w :: v :: w :: t) u) := rfl
theorem gr_pop {d : Nat} {Y : Mth} {Q : Option MV → Mem → Prop}  {n a k b : Nat} {xs : List Nat} {g : Sg} {r : List En} {L : List (Option MV)} {st : List MV} {u : Mem} : go d Y Q ((.pop, n, a, k, xs, g) :: r) b L st u = (pA st fun _ t => go d Y Q r b L t u) := rfl
theorem gr_getfield {d : Nat} {Y : Mth} {Q : Option MV → Mem → Prop} {z0 : Nat} {n a k b : Nat} {xs : List Nat} {g : Sg} {r : List En} {L : List (Option MV)} {st : List MV} {u : Mem} : go d Y Q ((.getfield z0, n, a, k, xs, g) :: r) b L st u = (pR st fun c i t => c = a ∧ i < NI a ∧ go d Y Q r b L (fm u a i k :: t) u) := rfl
theorem gr_putfield {d : Nat} {Y : Mth} {Q : Option MV → Mem → Prop} {z0 : Nat} {n a k b : Nat} {xs : List Nat} {g : Sg} {r : List En} {L : List (Option MV)} {st : List MV} {u : Mem} : go d Y Q ((.putfield z0, n, a, k, xs, g) :: r) b L st u = (pI st fun v t => pR t fun c i t => c = a ∧ i < NI a ∧ fk a k = none ∧ (isZ a k = true → v = nI 0 ∨ v = nI 1) ∧ go d Y Q r b L t (wr u a i k v)) := rfl
theorem gr_iaload {d : Nat} {Y : Mth} {Q : Option MV → Mem → Prop}  {n a k b : Nat} {xs : List Nat} {g : Sg} {r : List En} {L : List (Option MV)} {st : List MV} {u : Mem} : go d Y Q ((.iaload, n, a, k, xs, g) :: r) b L st u = (pI st fun x t => pR t fun c i t => ia c = true ∧ i < NI c ∧ vp_in x (ln c i) ∧ go d Y Q r b L (.inl (rd u c i x.toNatClampNeg) :: t) u) := rfl
theorem gr_iastore {d : Nat} {Y : Mth} {Q : Option MV → Mem → Prop}  {n a k b : Nat} {xs : List Nat} {g : Sg} {r : List En} {L : List (Option MV)} {st : List MV} {u : Mem} : go d Y Q ((.iastore, n, a, k, xs, g) :: r) b L st u = (pI st fun v t => pI t fun x t => pR t fun c i t => ia c = true ∧ i < NI c ∧ vp_in x (ln c i) ∧ go d Y Q r b L t (wr u c i x.toNatClampNeg v)) := rfl
theorem gr_laload {d : Nat} {Y : Mth} {Q : Option MV → Mem → Prop}  {n a k b : Nat} {xs : List Nat} {g : Sg} {r : List En} {L : List (Option MV)} {st : List MV} {u : Mem} : go d Y Q ((.laload, n, a, k, xs, g) :: r) b L st u = (pI st fun x t => pR t fun c i t => c = 30 ∧ i < NI c ∧ vp_in x 2 ∧ go d Y Q r b L (.inr (.inl (rdL u x.toNatClampNeg)) :: t) u) := rfl
theorem gr_lastore {d : Nat} {Y : Mth} {Q : Option MV → Mem → Prop}  {n a k b : Nat} {xs : List Nat} {g : Sg} {r : List En} {L : List (Option MV)} {st : List MV} {u : Mem} : go d Y Q ((.lastore, n, a, k, xs, g) :: r) b L st u = (pL st fun v t => pI t fun x t => pR t fun c i t => c = 30 ∧ i < NI c ∧ vp_in x 2 ∧ go d Y Q r b L t (wrL u x.toNatClampNeg v)) := rfl
theorem gr_aaload {d : Nat} {Y : Mth} {Q : Option MV → Mem → Prop}  {n a k b : Nat} {xs : List Nat} {g : Sg} {r : List En} {L : List (Option MV)} {st : List MV} {u : Mem} : go d Y Q ((.aaload, n, a, k, xs, g) :: r) b L st u = (pI st fun x t => pR t fun c i t => i < NI c ∧ (match ra c with
        | some q => vp_in x q.2.2.1 ∧ go d Y Q r b L (.inr (.inr (q.1, q.2.1 + x.toNatClampNeg)) :: t) u
        | none => False)) := rfl
theorem gr_arraylength {d : Nat} {Y : Mth} {Q : Option MV → Mem → Prop}  {n a k b : Nat} {xs : List Nat} {g : Sg} {r : List En} {L : List (Option MV)} {st : List MV} {u : Mem} : go d Y Q ((.arraylength, n, a, k, xs, g) :: r) b L st u = (pR st fun c i t => i < NI c ∧ (match alen c i with
        | some n => go d Y Q r b L (.inl (nI n) :: t) u
        | none => False)) := rfl
theorem gr_tableswitch {d : Nat} {Y : Mth} {Q : Option MV → Mem → Prop} {z0 z1 z2 : Int} {z3 : Array Int} {n a k b : Nat} {xs : List Nat} {g : Sg} {r : List En} {L : List (Option MV)} {st : List MV} {u : Mem} : go d Y Q ((.tableswitch z0 z1 z2 z3, n, a, k, xs, g) :: r) b L st u = (pI st fun x t => sw xs 0 x (fun b' => RunB (d + 1) Y b' L t u Q) a) := rfl
theorem gr_invokevirtual {d : Nat} {Y : Mth} {Q : Option MV → Mem → Prop} {z0 : Nat} {n a k b : Nat} {xs : List Nat} {g : Sg} {r : List En} {L : List (Option MV)} {st : List MV} {u : Mem} : go d Y Q ((.invokevirtual z0, n, a, k, xs, g) :: r) b L st u = (pops a [] st fun as t => pR t fun c i t => c = k ∧ i < NI c ∧ cats t ≤ 8 ∧ OKm d g (.inr (.inr (c, i)) :: as) u fun v u' => go d Y Q r b L (pushR v t) u') := rfl
theorem gr_invokestatic {d : Nat} {Y : Mth} {Q : Option MV → Mem → Prop} {z0 : Nat} {n a k b : Nat} {xs : List Nat} {g : Sg} {r : List En} {L : List (Option MV)} {st : List MV} {u : Mem} : go d Y Q ((.invokestatic z0, n, a, k, xs, g) :: r) b L st u = (if k = 3 then
          pI st fun n t => pI t fun dp t => pR t fun c' i' t => pI t fun sp t => pR t fun c i t => ia c = true ∧ i < NI c ∧ ia c' = true ∧ i' < NI c' ∧ cats t ≤ 8 ∧ ¬ sp < 0 ∧ ¬ dp < 0 ∧ ¬ n < 0 ∧ sp.toNatClampNeg + n.toNatClampNeg ≤ ln c i ∧ dp.toNatClampNeg + n.toNatClampNeg ≤ ln c' i' ∧ go d Y Q r b L t (cpy u c i c' i' sp.toNatClampNeg dp.toNatClampNeg n.toNatClampNeg)
        else if k = 4 then pI st fun y t => pI t fun x t => cats t ≤ 8 ∧ go d Y Q r b L (.inl (if x < y then y else x) :: t) u
        else if k = 5 then pI st fun y t => pI t fun x t => cats t ≤ 8 ∧ go d Y Q r b L (.inl (if y < x then y else x) :: t) u
        else if k = 6 then pL st fun y t => pL t fun x t => cats t ≤ 8 ∧ go d Y Q r b L (.inr (.inl (if y < x then x else y)) :: t) u
        else pops a [] st fun as t => cats t ≤ 8 ∧ OKm d g as u fun v u' => go d Y Q r b L (pushR v t) u') := rfl
theorem gr_ireturn {d : Nat} {Y : Mth} {Q : Option MV → Mem → Prop}  {n a k b : Nat} {xs : List Nat} {g : Sg} {r : List En} {L : List (Option MV)} {st : List MV} {u : Mem} : go d Y Q ((.ireturn, n, a, k, xs, g) :: r) b L st u = (pI st fun v t => t = [] ∧ (k = 1 → v = nI 0 ∨ v = nI 1) ∧ Q (some (.inl v)) u) := rfl
theorem gr_lreturn {d : Nat} {Y : Mth} {Q : Option MV → Mem → Prop}  {n a k b : Nat} {xs : List Nat} {g : Sg} {r : List En} {L : List (Option MV)} {st : List MV} {u : Mem} : go d Y Q ((.lreturn, n, a, k, xs, g) :: r) b L st u = (pL st fun v t => t = [] ∧ Q (some (.inr (.inl v))) u) := rfl
theorem gr_return {d : Nat} {Y : Mth} {Q : Option MV → Mem → Prop}  {n a k b : Nat} {xs : List Nat} {g : Sg} {r : List En} {L : List (Option MV)} {st : List MV} {u : Mem} : go d Y Q ((.return_, n, a, k, xs, g) :: r) b L st u = (st = [] ∧ Q none u) := rfl
theorem gr_nil {d : Nat} {Y : Mth} {Q : Option MV → Mem → Prop} {b : Nat} {L : List (Option MV)} {st : List MV} {u : Mem} : go d Y Q [] b L st u = RunB (d + 1) Y (b + 1) L st u Q := rfl
theorem pI_c {x : Int32} {t : List MV} {K : Int32 → List MV → Prop} : pI (.inl x :: t) K = K x t := rfl
theorem pL_c {x : Int64} {t : List MV} {K : Int64 → List MV → Prop} : pL (.inr (.inl x) :: t) K = K x t := rfl
theorem pR_c {c i : Nat} {t : List MV} {K : Nat → Nat → List MV → Prop} : pR (.inr (.inr (c, i)) :: t) K = K c i t := rfl
theorem pA_i {x : Int32} {t : List MV} {K : MV → List MV → Prop} : pA (.inl x :: t) K = K (.inl x) t := rfl
theorem pA_r {q : Nat × Nat} {t : List MV} {K : MV → List MV → Prop} : pA (.inr (.inr q) :: t) K = K (.inr (.inr q)) t := rfl
theorem oI_c {x : Int32} {K : Int32 → Prop} : oI (some (.inl x)) K = K x := rfl
theorem oL_c {x : Int64} {K : Int64 → Prop} : oL (some (.inr (.inl x))) K = K x := rfl
theorem oR_c {c i : Nat} {K : Nat → Nat → Prop} : oR (some (.inr (.inr (c, i)))) K = K c i := rfl
theorem ps_0 {acc st : List MV} {K : List MV → List MV → Prop} : pops 0 acc st K = K acc st := rfl
theorem ps_s {n : Nat} {acc st : List MV} {v : MV} {K : List MV → List MV → Prop} : pops (n + 1) acc (v :: st) K = pops n (v :: acc) st K := rfl
theorem pu_n {t : List MV} : pushR none t = t := rfl
theorem pu_s {v : MV} {t : List MV} : pushR (some v) t = v :: t := rfl
theorem lg_i {x : Int32} : lgq (some (.inl x)) = false := rfl
theorem lg_l {x : Int64} : lgq (some (.inr (.inl x))) = true := rfl
theorem lg_r {x : Nat × Nat} : lgq (some (.inr (.inr x))) = false := rfl
theorem lg_n : lgq none = false := rfl
theorem kI_p {a : Nat} : kI a 0 = nI a := rfl
theorem kI_m {a : Nat} : kI a 1 = - nI a := rfl
theorem kL_p {a : Nat} : kL a 0 = lN a := rfl
theorem kL_m {a : Nat} : kL a 1 = - lN a := rfl
theorem ct_0 : cats [] = 0 := rfl
theorem ct_i {x : Int32} {t : List MV} : cats (.inl x :: t) = 1 + cats t := rfl
theorem ct_l {x : Int64} {t : List MV} : cats (.inr (.inl x) :: t) = 2 + cats t := rfl
theorem ct_r {x : Nat × Nat} {t : List MV} : cats (.inr (.inr x) :: t) = 1 + cats t := rfl
theorem lk_0 {x : Option MV} {r : List (Option MV)} : lk (x :: r) 0 = x := rfl
theorem lk_s {x : Option MV} {r : List (Option MV)} {n : Nat} : lk (x :: r) (n + 1) = lk r n := rfl
theorem sk_0 {x v : Option MV} {r : List (Option MV)} : sk (x :: r) 0 v = v :: r := rfl
theorem sk_s {x v : Option MV} {r : List (Option MV)} {n : Nat} : sk (x :: r) (n + 1) v = x :: sk r n v := rfl
theorem clr_0 {L : List (Option MV)} : clr L 0 = L := rfl
theorem clr_s {L : List (Option MV)} {i : Nat} : clr L (i + 1) = if lgq (lk L i) = true then sk L i none else L := rfl
theorem sw_n {j D : Nat} {x : Int32} {K : Nat → Prop} : sw [] j x K D = K D := rfl
theorem sw_c {j D b : Nat} {bs : List Nat} {x : Int32} {K : Nat → Prop} : sw (b :: bs) j x K D = ((x = nI j → K b) ∧ (¬ x = nI j → sw bs (j + 1) x K D)) := rfl
theorem ar_n {n : Nat} : argL [] n = List.replicate n none := rfl
theorem ar_c {n : Nat} {v : MV} {r : List MV} : argL (v :: r) n = if lgq (some v) = true then some v :: none :: argL r (n - 2) else some v :: argL r (n - 1) := rfl
theorem tt_and {p : Prop} : (True ∧ p) = p := by simp
theorem tt_imp {p : Prop} : (True → p) = p := by simp
theorem ff_imp {p : Prop} : (False → p) = True := by simp
end
section
def g_0 : Sg := (⟨"", "", ""⟩, ⟨#[]⟩, 0, none)
def g_B_letter : Sg := (⟨RB, "letter", "(I)I"⟩, prog_2_method_2_code, 2, (some .int))
def g_B_takes : Sg := (⟨RB, "takes", "(II)Z"⟩, prog_2_method_3_code, 4, (some .boolean))
def g_B_takesLetter : Sg := (⟨RB, "takesLetter", "(II)Z"⟩, prog_2_method_4_code, 3, (some .boolean))
def g_P_clear : Sg := (⟨RP, "clear", "()V"⟩, prog_3_method_2_code, 1, none)
def g_P_become : Sg := (⟨RP, "become", "(LPosterWall$Pile;)V"⟩, prog_3_method_3_code, 2, none)
def g_P_put : Sg := (⟨RP, "put", "(ILPosterWall$Bill;)V"⟩, prog_3_method_4_code, 6, none)
def g_P_pull : Sg := (⟨RP, "pull", "(I)V"⟩, prog_3_method_5_code, 2, none)
def g_N_addTear : Sg := (⟨RN, "addTear", "(II)V"⟩, prog_4_method_2_code, 3, none)
def g_N_takeBills : Sg := (⟨RN, "takeBills", "(LPosterWall$Text;)I"⟩, prog_4_method_3_code, 6, (some .int))
def g_N_takeRains : Sg := (⟨RN, "takeRains", "(LPosterWall$Text;)I"⟩, prog_4_method_4_code, 3, (some .int))
def g_N_takeLaw : Sg := (⟨RN, "takeLaw", "(LPosterWall$Text;)I"⟩, prog_4_method_5_code, 4, (some .int))
def g_R_begin : Sg := (⟨RR, "begin", "(II)V"⟩, prog_5_method_2_code, 3, none)
def g_R_has : Sg := (⟨RR, "has", "(II)Z"⟩, prog_5_method_3_code, 3, (some .boolean))
def g_R_item : Sg := (⟨RR, "item", "(I)I"⟩, prog_5_method_4_code, 2, (some .int))
def g_R_put : Sg := (⟨RR, "put", "(II)V"⟩, prog_5_method_5_code, 3, none)
def g_S_add : Sg := (⟨RS, "add", "(III)V"⟩, prog_6_method_2_code, 4, none)
def g_S_fit : Sg := (⟨RS, "fit", "(LPosterWall$Stage;)Z"⟩, prog_6_method_3_code, 3, (some .boolean))
def g_T_fact : Sg := (⟨RT, "fact", "(III)I"⟩, prog_7_method_2_code, 4, (some .int))
def g_T_playDays : Sg := (⟨RT, "playDays", "([II)V"⟩, prog_7_method_3_code, 4, none)
def g_T_firstObeyed : Sg := (⟨RT, "firstObeyed", "([II)I"⟩, prog_7_method_4_code, 4, (some .int))
def g_T_play : Sg := (⟨RT, "play", "(II)V"⟩, prog_7_method_5_code, 4, none)
def g_T_layerSeen : Sg := (⟨RT, "layerSeen", "(II)I"⟩, prog_7_method_6_code, 7, (some .int))
def g_T_keepFacts : Sg := (⟨RT, "keepFacts", "(III)V"⟩, prog_7_method_7_code, 11, none)
def g_T_bleach : Sg := (⟨RT, "bleach", "()V"⟩, prog_7_method_8_code, 6, none)
def g_T_obeys : Sg := (⟨RT, "obeys", "(I)Z"⟩, prog_7_method_9_code, 4, (some .boolean))
def g_T_daysObeyed : Sg := (⟨RT, "daysObeyed", "()I"⟩, prog_7_method_10_code, 3, (some .int))
def g_T_daysRead : Sg := (⟨RT, "daysRead", "(I)I"⟩, prog_7_method_11_code, 4, (some .int))
def g_T_isReadOn : Sg := (⟨RT, "isReadOn", "(II)Z"⟩, prog_7_method_12_code, 4, (some .boolean))
def g_T_unreadBills : Sg := (⟨RT, "unreadBills", "()I"⟩, prog_7_method_13_code, 3, (some .int))
def g_X_isFull : Sg := (⟨RX, "isFull", "()Z"⟩, prog_8_method_2_code, 1, (some .boolean))
def g_X_push : Sg := (⟨RX, "push", "(I)V"⟩, prog_8_method_3_code, 2, none)
def g_X_pop : Sg := (⟨RX, "pop", "()V"⟩, prog_8_method_4_code, 1, none)
def g_X_byteAt : Sg := (⟨RX, "byteAt", "(I)I"⟩, prog_8_method_5_code, 2, (some .int))
def g_W_type : Sg := (⟨RW, "type", "(II)I"⟩, prog_1_method_2_code, 3, (some .int))
def g_W_wipe : Sg := (⟨RW, "wipe", "(I)I"⟩, prog_1_method_3_code, 3, (some .int))
def g_W_undo : Sg := (⟨RW, "undo", "(I)I"⟩, prog_1_method_4_code, 2, (some .int))
def g_W_fault : Sg := (⟨RW, "fault", "(I)I"⟩, prog_1_method_5_code, 2, (some .int))
def g_W_poster : Sg := (⟨RW, "poster", "(II)I"⟩, prog_1_method_6_code, 4, (some .int))
def g_W_rain : Sg := (⟨RW, "rain", "(I)I"⟩, prog_1_method_7_code, 2, (some .int))
def g_W_law : Sg := (⟨RW, "law", "(I)I"⟩, prog_1_method_8_code, 2, (some .int))
def g_W_tear : Sg := (⟨RW, "tear", "(II)I"⟩, prog_1_method_9_code, 3, (some .int))
def g_W_back : Sg := (⟨RW, "back", "()I"⟩, prog_1_method_10_code, 1, (some .int))
def g_W_read : Sg := (⟨RW, "read", "(I)I"⟩, prog_1_method_11_code, 5, (some .int))
def g_W_at : Sg := (⟨RW, "at", "(III)I"⟩, prog_1_method_12_code, 4, (some .int))
def g_W_obeyed : Sg := (⟨RW, "obeyed", "(I)I"⟩, prog_1_method_13_code, 2, (some .int))
def g_W_days : Sg := (⟨RW, "days", "(I)I"⟩, prog_1_method_14_code, 3, (some .int))
def g_W_unread : Sg := (⟨RW, "unread", "()I"⟩, prog_1_method_15_code, 1, (some .int))
def g_W_often : Sg := (⟨RW, "often", "()I"⟩, prog_1_method_16_code, 5, (some .int))
def g_W_rip : Sg := (⟨RW, "rip", "(II)I"⟩, prog_1_method_17_code, 3, (some .int))
def g_W_wet : Sg := (⟨RW, "wet", "(I)I"⟩, prog_1_method_18_code, 4, (some .int))
def g_W_paste : Sg := (⟨RW, "paste", "(II)I"⟩, prog_1_method_19_code, 3, (some .int))
def g_W_stick : Sg := (⟨RW, "stick", "(II)I"⟩, prog_1_method_20_code, 3, (some .int))
def g_W_seen : Sg := (⟨RW, "seen", "(III)I"⟩, prog_1_method_21_code, 4, (some .int))
def g_W_forget : Sg := (⟨RW, "forget", "()I"⟩, prog_1_method_22_code, 2, (some .int))
def g_W_never : Sg := (⟨RW, "never", "()I"⟩, prog_1_method_23_code, 3, (some .int))
def g_W_was : Sg := (⟨RW, "was", "(II)I"⟩, prog_1_method_24_code, 4, (some .int))
def g_W_ask : Sg := (⟨RW, "ask", "(I)I"⟩, prog_1_method_25_code, 2, (some .int))
def g_W_shower : Sg := (⟨RW, "shower", "(IIII)J"⟩, prog_1_method_26_code, 5, (some .long))
def g_W_season : Sg := (⟨RW, "season", "(III)I"⟩, prog_1_method_27_code, 6, (some .int))
def g_W_sheet : Sg := (⟨RW, "sheet", "(III)I"⟩, prog_1_method_28_code, 4, (some .int))
def g_W_lose : Sg := (⟨RW, "lose", "(I)I"⟩, prog_1_method_29_code, 2, (some .int))
def g_W_lay : Sg := (⟨RW, "lay", "(IIII)I"⟩, prog_1_method_30_code, 6, (some .int))
def g_W_get : Sg := (⟨RW, "get", "(III)I"⟩, prog_1_method_31_code, 5, (some .int))
def g_W_copy : Sg := (⟨RW, "copy", "(IIIII)I"⟩, prog_1_method_32_code, 8, (some .int))
def g_W_write : Sg := (⟨RW, "write", "(II)I"⟩, prog_1_method_33_code, 6, (some .int))
def g_W_count : Sg := (⟨RW, "count", "(I)I"⟩, prog_1_method_34_code, 2, (some .int))
def g_W_digest : Sg := (⟨RW, "digest", "()J"⟩, prog_1_method_35_code, 4, (some .long))
def g_W_digestDay : Sg := (⟨RW, "digestDay", "(JI)J"⟩, prog_1_method_36_code, 8, (some .long))
def g_W_digestBill : Sg := (⟨RW, "digestBill", "(JI)J"⟩, prog_1_method_37_code, 7, (some .long))
def g_W_isBelow : Sg := (⟨RW, "isBelow", "(II)Z"⟩, prog_1_method_38_code, 2, (some .boolean))
def g_W_finding : Sg := (⟨RW, "finding", "(I)I"⟩, prog_1_method_39_code, 2, (some .int))
def g_W_wrongWith : Sg := (⟨RW, "wrongWith", "(LPosterWall$Row;II)I"⟩, prog_1_method_40_code, 3, (some .int))
def g_W_take : Sg := (⟨RW, "take", "(I)V"⟩, prog_1_method_41_code, 3, none)
def g_W_playTold : Sg := (⟨RW, "playTold", "()V"⟩, prog_1_method_42_code, 1, none)
def g_W_playAhead : Sg := (⟨RW, "playAhead", "(I)V"⟩, prog_1_method_43_code, 2, none)
def g_W_findRip : Sg := (⟨RW, "findRip", "(I)V"⟩, prog_1_method_44_code, 4, none)
def g_W_obeysTorn : Sg := (⟨RW, "obeysTorn", "(III)Z"⟩, prog_1_method_45_code, 5, (some .boolean))
def g_W_setFound : Sg := (⟨RW, "setFound", "(III)V"⟩, prog_1_method_46_code, 4, none)
def g_W_findPaste : Sg := (⟨RW, "findPaste", "(LPosterWall$Bill;)V"⟩, prog_1_method_47_code, 5, none)
def g_W_findStick : Sg := (⟨RW, "findStick", "(LPosterWall$Bill;)V"⟩, prog_1_method_48_code, 8, none)
def g_W_comesOutAsSeen : Sg := (⟨RW, "comesOutAsSeen", "()Z"⟩, prog_1_method_49_code, 1, (some .boolean))
def g_W_thicks : Sg := (⟨RW, "thicks", "(LPosterWall$Bill;)I"⟩, prog_1_method_50_code, 5, (some .int))
def g_W_years : Sg := (⟨RW, "years", "(LPosterWall$Bill;)I"⟩, prog_1_method_51_code, 5, (some .int))
def g_W_tallyLastDay : Sg := (⟨RW, "tallyLastDay", "()V"⟩, prog_1_method_52_code, 4, none)
def g_W_columnToAsk : Sg := (⟨RW, "columnToAsk", "()I"⟩, prog_1_method_53_code, 5, (some .int))
def g_W_greatestLike : Sg := (⟨RW, "greatestLike", "(I)I"⟩, prog_1_method_54_code, 4, (some .int))
def g_W_findShower : Sg := (⟨RW, "findShower", "(III)V"⟩, prog_1_method_55_code, 10, none)
def g_W_obeyedFrom : Sg := (⟨RW, "obeyedFrom", "(IIII)J"⟩, prog_1_method_56_code, 8, (some .long))
def g_W_obeyedBy : Sg := (⟨RW, "obeyedBy", "(IIIII)J"⟩, prog_1_method_57_code, 6, (some .long))
def g_W_obeyedLater : Sg := (⟨RW, "obeyedLater", "(II)Z"⟩, prog_1_method_58_code, 4, (some .boolean))
def g_W_greatestDivisor : Sg := (⟨RW, "greatestDivisor", "(JJ)J"⟩, prog_1_method_59_code, 11, (some .long))
def g_M_in : Sg := (⟨RM, "in", "(JJJ)Z"⟩, prog_10_method_3_code, 6, (some .boolean))
def g_M_no : Sg := (⟨RM, "no", "(I)J"⟩, prog_10_method_4_code, 1, (some .long))
def g_M_isTwo : Sg := (⟨RM, "isTwo", "(I)Z"⟩, prog_10_method_5_code, 1, (some .boolean))
def g_M_isIn : Sg := (⟨RM, "isIn", "(II)Z"⟩, prog_10_method_6_code, 2, (some .boolean))
def g_M_ones : Sg := (⟨RM, "ones", "(I)I"⟩, prog_10_method_7_code, 3, (some .int))
def g_M_lesser : Sg := (⟨RM, "lesser", "(II)I"⟩, prog_10_method_8_code, 2, (some .int))
def g_M_greater : Sg := (⟨RM, "greater", "(II)I"⟩, prog_10_method_9_code, 2, (some .int))
def g_M_part : Sg := (⟨RM, "part", "(JJI)J"⟩, prog_10_method_10_code, 11, (some .long))
def g_M_finds : Sg := (⟨RM, "finds", "(I)I"⟩, prog_10_method_11_code, 2, (some .int))
def g_M_isSheet : Sg := (⟨RM, "isSheet", "(I)Z"⟩, prog_10_method_12_code, 1, (some .boolean))
def g_M_sheet : Sg := (⟨RM, "sheet", "(III)I"⟩, prog_10_method_13_code, 5, (some .int))
def g_M_lose : Sg := (⟨RM, "lose", "(I)I"⟩, prog_10_method_14_code, 2, (some .int))
def g_M_lacks : Sg := (⟨RM, "lacks", "(III)I"⟩, prog_10_method_15_code, 4, (some .int))
def g_M_cut : Sg := (⟨RM, "cut", "(II)I"⟩, prog_10_method_16_code, 2, (some .int))
def g_M_lay : Sg := (⟨RM, "lay", "(IIII)I"⟩, prog_10_method_17_code, 6, (some .int))
def g_M_get : Sg := (⟨RM, "get", "(III)I"⟩, prog_10_method_18_code, 4, (some .int))
def g_M_copy : Sg := (⟨RM, "copy", "(IIIII)I"⟩, prog_10_method_19_code, 7, (some .int))
def g_M_isText : Sg := (⟨RM, "isText", "(I)Z"⟩, prog_10_method_20_code, 1, (some .boolean))
def g_M_type : Sg := (⟨RM, "type", "(II)I"⟩, prog_10_method_21_code, 3, (some .int))
def g_M_wipe : Sg := (⟨RM, "wipe", "(I)I"⟩, prog_10_method_22_code, 3, (some .int))
def g_M_undo : Sg := (⟨RM, "undo", "(I)I"⟩, prog_10_method_23_code, 2, (some .int))
def g_M_figureOf : Sg := (⟨RM, "figureOf", "(III)I"⟩, prog_10_method_24_code, 3, (some .int))
def g_M_headOf : Sg := (⟨RM, "headOf", "(II)I"⟩, prog_10_method_25_code, 2, (some .int))
def g_M_readsPosters : Sg := (⟨RM, "readsPosters", "()I"⟩, prog_10_method_26_code, 9, (some .int))
def g_M_dries : Sg := (⟨RM, "dries", "(I)I"⟩, prog_10_method_27_code, 3, (some .int))
def g_M_readsRains : Sg := (⟨RM, "readsRains", "()I"⟩, prog_10_method_28_code, 3, (some .int))
def g_M_lawless : Sg := (⟨RM, "lawless", "(I)I"⟩, prog_10_method_29_code, 3, (some .int))
def g_M_readsLaw : Sg := (⟨RM, "readsLaw", "()I"⟩, prog_10_method_30_code, 3, (some .int))
def g_M_readsText : Sg := (⟨RM, "readsText", "(I)I"⟩, prog_10_method_31_code, 2, (some .int))
def g_M_fault : Sg := (⟨RM, "fault", "(I)I"⟩, prog_10_method_32_code, 2, (some .int))
def g_M_isPoster : Sg := (⟨RM, "isPoster", "(I)Z"⟩, prog_10_method_33_code, 2, (some .boolean))
def g_M_isDay : Sg := (⟨RM, "isDay", "(I)Z"⟩, prog_10_method_34_code, 1, (some .boolean))
def g_M_isColumn : Sg := (⟨RM, "isColumn", "(I)Z"⟩, prog_10_method_35_code, 1, (some .boolean))
def g_M_posterBy : Sg := (⟨RM, "posterBy", "(II)I"⟩, prog_10_method_36_code, 3, (some .int))
def g_M_poster : Sg := (⟨RM, "poster", "(II)I"⟩, prog_10_method_37_code, 3, (some .int))
def g_M_rain : Sg := (⟨RM, "rain", "(I)I"⟩, prog_10_method_38_code, 2, (some .int))
def g_M_law : Sg := (⟨RM, "law", "(I)I"⟩, prog_10_method_39_code, 2, (some .int))
def g_M_tear : Sg := (⟨RM, "tear", "(II)I"⟩, prog_10_method_40_code, 3, (some .int))
def g_M_back : Sg := (⟨RM, "back", "()I"⟩, prog_10_method_41_code, 1, (some .int))
def g_M_read : Sg := (⟨RM, "read", "(I)I"⟩, prog_10_method_42_code, 4, (some .int))
def g_M_isTorn : Sg := (⟨RM, "isTorn", "(I)V"⟩, prog_10_method_43_code, 2, none)
def g_M_tearsOff : Sg := (⟨RM, "tearsOff", "(I)V"⟩, prog_10_method_44_code, 3, none)
def g_M_sticks : Sg := (⟨RM, "sticks", "(I)V"⟩, prog_10_method_45_code, 4, none)
def g_M_thickOf : Sg := (⟨RM, "thickOf", "(II)I"⟩, prog_10_method_46_code, 3, (some .int))
def g_M_reads : Sg := (⟨RM, "reads", "(II)V"⟩, prog_10_method_47_code, 10, none)
def g_M_bleaches : Sg := (⟨RM, "bleaches", "(I)V"⟩, prog_10_method_48_code, 3, none)
def g_M_lives : Sg := (⟨RM, "lives", "()V"⟩, prog_10_method_49_code, 3, none)
def g_M_find : Sg := (⟨RM, "find", "()V"⟩, prog_10_method_50_code, 1, none)
def g_M_at : Sg := (⟨RM, "at", "(III)I"⟩, prog_10_method_51_code, 4, (some .int))
def g_M_isObeyed : Sg := (⟨RM, "isObeyed", "(I)Z"⟩, prog_10_method_52_code, 5, (some .boolean))
def g_M_obeyed : Sg := (⟨RM, "obeyed", "(I)I"⟩, prog_10_method_53_code, 2, (some .int))
def g_M_daysBy : Sg := (⟨RM, "daysBy", "(I)I"⟩, prog_10_method_54_code, 6, (some .int))
def g_M_days : Sg := (⟨RM, "days", "(I)I"⟩, prog_10_method_55_code, 2, (some .int))
def g_M_readOf : Sg := (⟨RM, "readOf", "(I)I"⟩, prog_10_method_56_code, 6, (some .int))
def g_M_unreadNow : Sg := (⟨RM, "unreadNow", "()I"⟩, prog_10_method_57_code, 3, (some .int))
def g_M_unread : Sg := (⟨RM, "unread", "()I"⟩, prog_10_method_58_code, 1, (some .int))
def g_M_oftenNow : Sg := (⟨RM, "oftenNow", "()I"⟩, prog_10_method_59_code, 5, (some .int))
def g_M_often : Sg := (⟨RM, "often", "()I"⟩, prog_10_method_60_code, 1, (some .int))
def g_M_isObeyedBy : Sg := (⟨RM, "isObeyedBy", "(III)Z"⟩, prog_10_method_61_code, 4, (some .boolean))
def g_M_ripOf : Sg := (⟨RM, "ripOf", "(II)I"⟩, prog_10_method_62_code, 5, (some .int))
def g_M_rip : Sg := (⟨RM, "rip", "(II)I"⟩, prog_10_method_63_code, 3, (some .int))
def g_M_wetOf : Sg := (⟨RM, "wetOf", "(I)I"⟩, prog_10_method_64_code, 5, (some .int))
def g_M_wet : Sg := (⟨RM, "wet", "(I)I"⟩, prog_10_method_65_code, 2, (some .int))
def g_M_pasteOf : Sg := (⟨RM, "pasteOf", "(II)I"⟩, prog_10_method_66_code, 8, (some .int))
def g_M_paste : Sg := (⟨RM, "paste", "(II)I"⟩, prog_10_method_67_code, 3, (some .int))
def g_M_stickOf : Sg := (⟨RM, "stickOf", "(II)I"⟩, prog_10_method_68_code, 10, (some .int))
def g_M_stick : Sg := (⟨RM, "stick", "(II)I"⟩, prog_10_method_69_code, 3, (some .int))
def g_M_seen : Sg := (⟨RM, "seen", "(III)I"⟩, prog_10_method_70_code, 4, (some .int))
def g_M_forget : Sg := (⟨RM, "forget", "()I"⟩, prog_10_method_71_code, 2, (some .int))
def g_M_isSeen : Sg := (⟨RM, "isSeen", "()Z"⟩, prog_10_method_72_code, 4, (some .boolean))
def g_M_neverNow : Sg := (⟨RM, "neverNow", "()I"⟩, prog_10_method_73_code, 3, (some .int))
def g_M_never : Sg := (⟨RM, "never", "()I"⟩, prog_10_method_74_code, 1, (some .int))
def g_M_thicksOf : Sg := (⟨RM, "thicksOf", "(I)I"⟩, prog_10_method_75_code, 5, (some .int))
def g_M_yearsOf : Sg := (⟨RM, "yearsOf", "(I)I"⟩, prog_10_method_76_code, 5, (some .int))
def g_M_wasOf : Sg := (⟨RM, "wasOf", "(II)I"⟩, prog_10_method_77_code, 3, (some .int))
def g_M_was : Sg := (⟨RM, "was", "(II)I"⟩, prog_10_method_78_code, 3, (some .int))
def g_M_askOf : Sg := (⟨RM, "askOf", "(I)I"⟩, prog_10_method_79_code, 9, (some .int))
def g_M_ask : Sg := (⟨RM, "ask", "(I)I"⟩, prog_10_method_80_code, 2, (some .int))
def g_M_showerOf : Sg := (⟨RM, "showerOf", "(IIII)J"⟩, prog_10_method_81_code, 11, (some .long))
def g_M_shower : Sg := (⟨RM, "shower", "(IIII)J"⟩, prog_10_method_82_code, 5, (some .long))
def g_M_lot : Sg := (⟨RM, "lot", "(I)I"⟩, prog_10_method_83_code, 2, (some .int))
def g_M_seasonOf : Sg := (⟨RM, "seasonOf", "(III)I"⟩, prog_10_method_84_code, 5, (some .int))
def g_M_season : Sg := (⟨RM, "season", "(III)I"⟩, prog_10_method_85_code, 4, (some .int))
def g_M_write : Sg := (⟨RM, "write", "(II)I"⟩, prog_10_method_86_code, 5, (some .int))
def g_M_letters : Sg := (⟨RM, "letters", "()I"⟩, prog_10_method_87_code, 3, (some .int))
def g_M_count : Sg := (⟨RM, "count", "(I)I"⟩, prog_10_method_88_code, 2, (some .int))
def g_M_tellsDay : Sg := (⟨RM, "tellsDay", "(JI)J"⟩, prog_10_method_89_code, 7, (some .long))
def g_M_tellsPoster : Sg := (⟨RM, "tellsPoster", "(JI)J"⟩, prog_10_method_90_code, 7, (some .long))
def g_M_digest : Sg := (⟨RM, "digest", "()J"⟩, prog_10_method_91_code, 4, (some .long))
def g_J_bitCount : Sg := (⟨"java/lang/Integer", "bitCount", "(I)I"⟩, prog_11_method_49_code, 1, (some .int))
def g_J_fill : Sg := (⟨"java/util/Arrays", "fill", "([II)V"⟩, prog_14_method_103_code, 4, none)
end
