section
-- ===== PART A: goes FIRST, ahead of the names: the tables' words, and 'selects' of the private methods out of them =====
/-- a private method of a class that the tables say can be made, by its rows of tables_1 -/
def lw_okq (q : MethodName × Nat) : Prop := (q.1.cls ≠ "java/lang/invoke/MethodHandle" ∧ q.1.cls ≠ "java/lang/invoke/VarHandle") ∧ Cond.instantiable q.1.cls q.2 ∈ tables_1 ∧ Cond.privateMethod q.1 ∈ tables_1 ∧ Cond.instanceMethod q.1 ∈ tables_1
theorem lw_p0 : lw_okq (⟨"PosterWall", "take", "(I)V"⟩, 13) := ⟨⟨by decide +kernel, by decide +kernel⟩, List.mem_of_getElem? (i := 15) (by decide +kernel), List.mem_of_getElem? (i := 281) (by decide +kernel), List.mem_of_getElem? (i := 282) (by decide +kernel)⟩
theorem lw_p1 : lw_okq (⟨"PosterWall$Bill", "takesLetter", "(II)Z"⟩, 6) := ⟨⟨by decide +kernel, by decide +kernel⟩, List.mem_of_getElem? (i := 32) (by decide +kernel), List.mem_of_getElem? (i := 299) (by decide +kernel), List.mem_of_getElem? (i := 300) (by decide +kernel)⟩
theorem lw_p2 : lw_okq (⟨"PosterWall", "finding", "(I)I"⟩, 13) := ⟨⟨by decide +kernel, by decide +kernel⟩, List.mem_of_getElem? (i := 15) (by decide +kernel), List.mem_of_getElem? (i := 360) (by decide +kernel), List.mem_of_getElem? (i := 361) (by decide +kernel)⟩
theorem lw_p3 : lw_okq (⟨"PosterWall", "playTold", "()V"⟩, 13) := ⟨⟨by decide +kernel, by decide +kernel⟩, List.mem_of_getElem? (i := 15) (by decide +kernel), List.mem_of_getElem? (i := 374) (by decide +kernel), List.mem_of_getElem? (i := 375) (by decide +kernel)⟩
theorem lw_p4 : lw_okq (⟨"PosterWall$Stage", "layerSeen", "(II)I"⟩, 3) := ⟨⟨by decide +kernel, by decide +kernel⟩, List.mem_of_getElem? (i := 120) (by decide +kernel), List.mem_of_getElem? (i := 399) (by decide +kernel), List.mem_of_getElem? (i := 400) (by decide +kernel)⟩
theorem lw_p5 : lw_okq (⟨"PosterWall$Stage", "keepFacts", "(III)V"⟩, 3) := ⟨⟨by decide +kernel, by decide +kernel⟩, List.mem_of_getElem? (i := 120) (by decide +kernel), List.mem_of_getElem? (i := 403) (by decide +kernel), List.mem_of_getElem? (i := 404) (by decide +kernel)⟩
theorem lw_p6 : lw_okq (⟨"PosterWall$Stage", "bleach", "()V"⟩, 3) := ⟨⟨by decide +kernel, by decide +kernel⟩, List.mem_of_getElem? (i := 120) (by decide +kernel), List.mem_of_getElem? (i := 407) (by decide +kernel), List.mem_of_getElem? (i := 408) (by decide +kernel)⟩
theorem lw_p7 : lw_okq (⟨"PosterWall$Stage", "isReadOn", "(II)Z"⟩, 3) := ⟨⟨by decide +kernel, by decide +kernel⟩, List.mem_of_getElem? (i := 120) (by decide +kernel), List.mem_of_getElem? (i := 447) (by decide +kernel), List.mem_of_getElem? (i := 448) (by decide +kernel)⟩
theorem lw_p8 : lw_okq (⟨"PosterWall", "findRip", "(I)V"⟩, 13) := ⟨⟨by decide +kernel, by decide +kernel⟩, List.mem_of_getElem? (i := 15) (by decide +kernel), List.mem_of_getElem? (i := 460) (by decide +kernel), List.mem_of_getElem? (i := 461) (by decide +kernel)⟩
theorem lw_p9 : lw_okq (⟨"PosterWall", "playAhead", "(I)V"⟩, 13) := ⟨⟨by decide +kernel, by decide +kernel⟩, List.mem_of_getElem? (i := 15) (by decide +kernel), List.mem_of_getElem? (i := 464) (by decide +kernel), List.mem_of_getElem? (i := 465) (by decide +kernel)⟩
theorem lw_p10 : lw_okq (⟨"PosterWall", "obeysTorn", "(III)Z"⟩, 13) := ⟨⟨by decide +kernel, by decide +kernel⟩, List.mem_of_getElem? (i := 15) (by decide +kernel), List.mem_of_getElem? (i := 475) (by decide +kernel), List.mem_of_getElem? (i := 476) (by decide +kernel)⟩
theorem lw_p11 : lw_okq (⟨"PosterWall", "setFound", "(III)V"⟩, 13) := ⟨⟨by decide +kernel, by decide +kernel⟩, List.mem_of_getElem? (i := 15) (by decide +kernel), List.mem_of_getElem? (i := 480) (by decide +kernel), List.mem_of_getElem? (i := 481) (by decide +kernel)⟩
theorem lw_p12 : lw_okq (⟨"PosterWall", "findPaste", "(LPosterWall$Bill;)V"⟩, 13) := ⟨⟨by decide +kernel, by decide +kernel⟩, List.mem_of_getElem? (i := 15) (by decide +kernel), List.mem_of_getElem? (i := 492) (by decide +kernel), List.mem_of_getElem? (i := 493) (by decide +kernel)⟩
theorem lw_p13 : lw_okq (⟨"PosterWall", "findStick", "(LPosterWall$Bill;)V"⟩, 13) := ⟨⟨by decide +kernel, by decide +kernel⟩, List.mem_of_getElem? (i := 15) (by decide +kernel), List.mem_of_getElem? (i := 500) (by decide +kernel), List.mem_of_getElem? (i := 501) (by decide +kernel)⟩
theorem lw_p14 : lw_okq (⟨"PosterWall", "comesOutAsSeen", "()Z"⟩, 13) := ⟨⟨by decide +kernel, by decide +kernel⟩, List.mem_of_getElem? (i := 15) (by decide +kernel), List.mem_of_getElem? (i := 524) (by decide +kernel), List.mem_of_getElem? (i := 525) (by decide +kernel)⟩
theorem lw_p15 : lw_okq (⟨"PosterWall", "thicks", "(LPosterWall$Bill;)I"⟩, 13) := ⟨⟨by decide +kernel, by decide +kernel⟩, List.mem_of_getElem? (i := 15) (by decide +kernel), List.mem_of_getElem? (i := 537) (by decide +kernel), List.mem_of_getElem? (i := 538) (by decide +kernel)⟩
def lw_privs_1 : List (MethodName × Nat) := [(⟨"PosterWall", "take", "(I)V"⟩, 13), (⟨"PosterWall$Bill", "takesLetter", "(II)Z"⟩, 6), (⟨"PosterWall", "finding", "(I)I"⟩, 13), (⟨"PosterWall", "playTold", "()V"⟩, 13), (⟨"PosterWall$Stage", "layerSeen", "(II)I"⟩, 3), (⟨"PosterWall$Stage", "keepFacts", "(III)V"⟩, 3), (⟨"PosterWall$Stage", "bleach", "()V"⟩, 3), (⟨"PosterWall$Stage", "isReadOn", "(II)Z"⟩, 3), (⟨"PosterWall", "findRip", "(I)V"⟩, 13), (⟨"PosterWall", "playAhead", "(I)V"⟩, 13), (⟨"PosterWall", "obeysTorn", "(III)Z"⟩, 13), (⟨"PosterWall", "setFound", "(III)V"⟩, 13), (⟨"PosterWall", "findPaste", "(LPosterWall$Bill;)V"⟩, 13), (⟨"PosterWall", "findStick", "(LPosterWall$Bill;)V"⟩, 13), (⟨"PosterWall", "comesOutAsSeen", "()Z"⟩, 13), (⟨"PosterWall", "thicks", "(LPosterWall$Bill;)I"⟩, 13)]
theorem lw_r1 : ∀ q ∈ lw_privs_1, lw_okq q := List.forall_mem_cons.mpr ⟨lw_p0, List.forall_mem_cons.mpr ⟨lw_p1, List.forall_mem_cons.mpr ⟨lw_p2, List.forall_mem_cons.mpr ⟨lw_p3, List.forall_mem_cons.mpr ⟨lw_p4, List.forall_mem_cons.mpr ⟨lw_p5, List.forall_mem_cons.mpr ⟨lw_p6, List.forall_mem_cons.mpr ⟨lw_p7, List.forall_mem_cons.mpr ⟨lw_p8, List.forall_mem_cons.mpr ⟨lw_p9, List.forall_mem_cons.mpr ⟨lw_p10, List.forall_mem_cons.mpr ⟨lw_p11, List.forall_mem_cons.mpr ⟨lw_p12, List.forall_mem_cons.mpr ⟨lw_p13, List.forall_mem_cons.mpr ⟨lw_p14, List.forall_mem_cons.mpr ⟨lw_p15, fun _ h => absurd h List.not_mem_nil⟩⟩⟩⟩⟩⟩⟩⟩⟩⟩⟩⟩⟩⟩⟩⟩
theorem lw_p16 : lw_okq (⟨"PosterWall", "years", "(LPosterWall$Bill;)I"⟩, 13) := ⟨⟨by decide +kernel, by decide +kernel⟩, List.mem_of_getElem? (i := 15) (by decide +kernel), List.mem_of_getElem? (i := 541) (by decide +kernel), List.mem_of_getElem? (i := 542) (by decide +kernel)⟩
theorem lw_p17 : lw_okq (⟨"PosterWall", "tallyLastDay", "()V"⟩, 13) := ⟨⟨by decide +kernel, by decide +kernel⟩, List.mem_of_getElem? (i := 15) (by decide +kernel), List.mem_of_getElem? (i := 546) (by decide +kernel), List.mem_of_getElem? (i := 547) (by decide +kernel)⟩
theorem lw_p18 : lw_okq (⟨"PosterWall", "columnToAsk", "()I"⟩, 13) := ⟨⟨by decide +kernel, by decide +kernel⟩, List.mem_of_getElem? (i := 15) (by decide +kernel), List.mem_of_getElem? (i := 554) (by decide +kernel), List.mem_of_getElem? (i := 555) (by decide +kernel)⟩
theorem lw_p19 : lw_okq (⟨"PosterWall", "greatestLike", "(I)I"⟩, 13) := ⟨⟨by decide +kernel, by decide +kernel⟩, List.mem_of_getElem? (i := 15) (by decide +kernel), List.mem_of_getElem? (i := 558) (by decide +kernel), List.mem_of_getElem? (i := 559) (by decide +kernel)⟩
theorem lw_p20 : lw_okq (⟨"PosterWall", "findShower", "(III)V"⟩, 13) := ⟨⟨by decide +kernel, by decide +kernel⟩, List.mem_of_getElem? (i := 15) (by decide +kernel), List.mem_of_getElem? (i := 568) (by decide +kernel), List.mem_of_getElem? (i := 569) (by decide +kernel)⟩
theorem lw_p21 : lw_okq (⟨"PosterWall", "obeyedFrom", "(IIII)J"⟩, 13) := ⟨⟨by decide +kernel, by decide +kernel⟩, List.mem_of_getElem? (i := 15) (by decide +kernel), List.mem_of_getElem? (i := 573) (by decide +kernel), List.mem_of_getElem? (i := 574) (by decide +kernel)⟩
theorem lw_p22 : lw_okq (⟨"PosterWall", "obeyedLater", "(II)Z"⟩, 13) := ⟨⟨by decide +kernel, by decide +kernel⟩, List.mem_of_getElem? (i := 15) (by decide +kernel), List.mem_of_getElem? (i := 577) (by decide +kernel), List.mem_of_getElem? (i := 578) (by decide +kernel)⟩
theorem lw_p23 : lw_okq (⟨"PosterWall", "obeyedBy", "(IIIII)J"⟩, 13) := ⟨⟨by decide +kernel, by decide +kernel⟩, List.mem_of_getElem? (i := 15) (by decide +kernel), List.mem_of_getElem? (i := 582) (by decide +kernel), List.mem_of_getElem? (i := 583) (by decide +kernel)⟩
theorem lw_p24 : lw_okq (⟨"PosterWall", "digestDay", "(JI)J"⟩, 13) := ⟨⟨by decide +kernel, by decide +kernel⟩, List.mem_of_getElem? (i := 15) (by decide +kernel), List.mem_of_getElem? (i := 662) (by decide +kernel), List.mem_of_getElem? (i := 663) (by decide +kernel)⟩
theorem lw_p25 : lw_okq (⟨"PosterWall", "digestBill", "(JI)J"⟩, 13) := ⟨⟨by decide +kernel, by decide +kernel⟩, List.mem_of_getElem? (i := 15) (by decide +kernel), List.mem_of_getElem? (i := 671) (by decide +kernel), List.mem_of_getElem? (i := 672) (by decide +kernel)⟩
theorem lw_p26 : lw_okq (⟨"PosterWallModel", "finds", "(I)I"⟩, 28) := ⟨⟨by decide +kernel, by decide +kernel⟩, List.mem_of_getElem? (i := 681) (by decide +kernel), List.mem_of_getElem? (i := 784) (by decide +kernel), List.mem_of_getElem? (i := 785) (by decide +kernel)⟩
theorem lw_p27 : lw_okq (⟨"PosterWallModel", "lacks", "(III)I"⟩, 28) := ⟨⟨by decide +kernel, by decide +kernel⟩, List.mem_of_getElem? (i := 681) (by decide +kernel), List.mem_of_getElem? (i := 796) (by decide +kernel), List.mem_of_getElem? (i := 797) (by decide +kernel)⟩
theorem lw_p28 : lw_okq (⟨"PosterWallModel", "readsText", "(I)I"⟩, 28) := ⟨⟨by decide +kernel, by decide +kernel⟩, List.mem_of_getElem? (i := 681) (by decide +kernel), List.mem_of_getElem? (i := 832) (by decide +kernel), List.mem_of_getElem? (i := 833) (by decide +kernel)⟩
theorem lw_p29 : lw_okq (⟨"PosterWallModel", "readsPosters", "()I"⟩, 28) := ⟨⟨by decide +kernel, by decide +kernel⟩, List.mem_of_getElem? (i := 681) (by decide +kernel), List.mem_of_getElem? (i := 836) (by decide +kernel), List.mem_of_getElem? (i := 837) (by decide +kernel)⟩
theorem lw_p30 : lw_okq (⟨"PosterWallModel", "readsRains", "()I"⟩, 28) := ⟨⟨by decide +kernel, by decide +kernel⟩, List.mem_of_getElem? (i := 681) (by decide +kernel), List.mem_of_getElem? (i := 848) (by decide +kernel), List.mem_of_getElem? (i := 849) (by decide +kernel)⟩
theorem lw_p31 : lw_okq (⟨"PosterWallModel", "dries", "(I)I"⟩, 28) := ⟨⟨by decide +kernel, by decide +kernel⟩, List.mem_of_getElem? (i := 681) (by decide +kernel), List.mem_of_getElem? (i := 852) (by decide +kernel), List.mem_of_getElem? (i := 853) (by decide +kernel)⟩
def lw_privs_2 : List (MethodName × Nat) := [(⟨"PosterWall", "years", "(LPosterWall$Bill;)I"⟩, 13), (⟨"PosterWall", "tallyLastDay", "()V"⟩, 13), (⟨"PosterWall", "columnToAsk", "()I"⟩, 13), (⟨"PosterWall", "greatestLike", "(I)I"⟩, 13), (⟨"PosterWall", "findShower", "(III)V"⟩, 13), (⟨"PosterWall", "obeyedFrom", "(IIII)J"⟩, 13), (⟨"PosterWall", "obeyedLater", "(II)Z"⟩, 13), (⟨"PosterWall", "obeyedBy", "(IIIII)J"⟩, 13), (⟨"PosterWall", "digestDay", "(JI)J"⟩, 13), (⟨"PosterWall", "digestBill", "(JI)J"⟩, 13), (⟨"PosterWallModel", "finds", "(I)I"⟩, 28), (⟨"PosterWallModel", "lacks", "(III)I"⟩, 28), (⟨"PosterWallModel", "readsText", "(I)I"⟩, 28), (⟨"PosterWallModel", "readsPosters", "()I"⟩, 28), (⟨"PosterWallModel", "readsRains", "()I"⟩, 28), (⟨"PosterWallModel", "dries", "(I)I"⟩, 28)]
theorem lw_r2 : ∀ q ∈ lw_privs_2, lw_okq q := List.forall_mem_cons.mpr ⟨lw_p16, List.forall_mem_cons.mpr ⟨lw_p17, List.forall_mem_cons.mpr ⟨lw_p18, List.forall_mem_cons.mpr ⟨lw_p19, List.forall_mem_cons.mpr ⟨lw_p20, List.forall_mem_cons.mpr ⟨lw_p21, List.forall_mem_cons.mpr ⟨lw_p22, List.forall_mem_cons.mpr ⟨lw_p23, List.forall_mem_cons.mpr ⟨lw_p24, List.forall_mem_cons.mpr ⟨lw_p25, List.forall_mem_cons.mpr ⟨lw_p26, List.forall_mem_cons.mpr ⟨lw_p27, List.forall_mem_cons.mpr ⟨lw_p28, List.forall_mem_cons.mpr ⟨lw_p29, List.forall_mem_cons.mpr ⟨lw_p30, List.forall_mem_cons.mpr ⟨lw_p31, fun _ h => absurd h List.not_mem_nil⟩⟩⟩⟩⟩⟩⟩⟩⟩⟩⟩⟩⟩⟩⟩⟩
theorem lw_p32 : lw_okq (⟨"PosterWallModel", "readsLaw", "()I"⟩, 28) := ⟨⟨by decide +kernel, by decide +kernel⟩, List.mem_of_getElem? (i := 681) (by decide +kernel), List.mem_of_getElem? (i := 856) (by decide +kernel), List.mem_of_getElem? (i := 857) (by decide +kernel)⟩
theorem lw_p33 : lw_okq (⟨"PosterWallModel", "lawless", "(I)I"⟩, 28) := ⟨⟨by decide +kernel, by decide +kernel⟩, List.mem_of_getElem? (i := 681) (by decide +kernel), List.mem_of_getElem? (i := 860) (by decide +kernel), List.mem_of_getElem? (i := 861) (by decide +kernel)⟩
theorem lw_p34 : lw_okq (⟨"PosterWallModel", "isPoster", "(I)Z"⟩, 28) := ⟨⟨by decide +kernel, by decide +kernel⟩, List.mem_of_getElem? (i := 681) (by decide +kernel), List.mem_of_getElem? (i := 868) (by decide +kernel), List.mem_of_getElem? (i := 869) (by decide +kernel)⟩
theorem lw_p35 : lw_okq (⟨"PosterWallModel", "posterBy", "(II)I"⟩, 28) := ⟨⟨by decide +kernel, by decide +kernel⟩, List.mem_of_getElem? (i := 681) (by decide +kernel), List.mem_of_getElem? (i := 873) (by decide +kernel), List.mem_of_getElem? (i := 874) (by decide +kernel)⟩
theorem lw_p36 : lw_okq (⟨"PosterWallModel", "find", "()V"⟩, 28) := ⟨⟨by decide +kernel, by decide +kernel⟩, List.mem_of_getElem? (i := 681) (by decide +kernel), List.mem_of_getElem? (i := 910) (by decide +kernel), List.mem_of_getElem? (i := 911) (by decide +kernel)⟩
theorem lw_p37 : lw_okq (⟨"PosterWallModel", "lives", "()V"⟩, 28) := ⟨⟨by decide +kernel, by decide +kernel⟩, List.mem_of_getElem? (i := 681) (by decide +kernel), List.mem_of_getElem? (i := 914) (by decide +kernel), List.mem_of_getElem? (i := 915) (by decide +kernel)⟩
theorem lw_p38 : lw_okq (⟨"PosterWallModel", "tearsOff", "(I)V"⟩, 28) := ⟨⟨by decide +kernel, by decide +kernel⟩, List.mem_of_getElem? (i := 681) (by decide +kernel), List.mem_of_getElem? (i := 918) (by decide +kernel), List.mem_of_getElem? (i := 919) (by decide +kernel)⟩
theorem lw_p39 : lw_okq (⟨"PosterWallModel", "isTorn", "(I)V"⟩, 28) := ⟨⟨by decide +kernel, by decide +kernel⟩, List.mem_of_getElem? (i := 681) (by decide +kernel), List.mem_of_getElem? (i := 925) (by decide +kernel), List.mem_of_getElem? (i := 926) (by decide +kernel)⟩
theorem lw_p40 : lw_okq (⟨"PosterWallModel", "sticks", "(I)V"⟩, 28) := ⟨⟨by decide +kernel, by decide +kernel⟩, List.mem_of_getElem? (i := 681) (by decide +kernel), List.mem_of_getElem? (i := 929) (by decide +kernel), List.mem_of_getElem? (i := 930) (by decide +kernel)⟩
theorem lw_p41 : lw_okq (⟨"PosterWallModel", "reads", "(II)V"⟩, 28) := ⟨⟨by decide +kernel, by decide +kernel⟩, List.mem_of_getElem? (i := 681) (by decide +kernel), List.mem_of_getElem? (i := 933) (by decide +kernel), List.mem_of_getElem? (i := 934) (by decide +kernel)⟩
theorem lw_p42 : lw_okq (⟨"PosterWallModel", "thickOf", "(II)I"⟩, 28) := ⟨⟨by decide +kernel, by decide +kernel⟩, List.mem_of_getElem? (i := 681) (by decide +kernel), List.mem_of_getElem? (i := 937) (by decide +kernel), List.mem_of_getElem? (i := 938) (by decide +kernel)⟩
theorem lw_p43 : lw_okq (⟨"PosterWallModel", "bleaches", "(I)V"⟩, 28) := ⟨⟨by decide +kernel, by decide +kernel⟩, List.mem_of_getElem? (i := 681) (by decide +kernel), List.mem_of_getElem? (i := 941) (by decide +kernel), List.mem_of_getElem? (i := 942) (by decide +kernel)⟩
theorem lw_p44 : lw_okq (⟨"PosterWallModel", "isObeyed", "(I)Z"⟩, 28) := ⟨⟨by decide +kernel, by decide +kernel⟩, List.mem_of_getElem? (i := 681) (by decide +kernel), List.mem_of_getElem? (i := 952) (by decide +kernel), List.mem_of_getElem? (i := 953) (by decide +kernel)⟩
theorem lw_p45 : lw_okq (⟨"PosterWallModel", "daysBy", "(I)I"⟩, 28) := ⟨⟨by decide +kernel, by decide +kernel⟩, List.mem_of_getElem? (i := 681) (by decide +kernel), List.mem_of_getElem? (i := 963) (by decide +kernel), List.mem_of_getElem? (i := 964) (by decide +kernel)⟩
theorem lw_p46 : lw_okq (⟨"PosterWallModel", "unreadNow", "()I"⟩, 28) := ⟨⟨by decide +kernel, by decide +kernel⟩, List.mem_of_getElem? (i := 681) (by decide +kernel), List.mem_of_getElem? (i := 971) (by decide +kernel), List.mem_of_getElem? (i := 972) (by decide +kernel)⟩
theorem lw_p47 : lw_okq (⟨"PosterWallModel", "readOf", "(I)I"⟩, 28) := ⟨⟨by decide +kernel, by decide +kernel⟩, List.mem_of_getElem? (i := 681) (by decide +kernel), List.mem_of_getElem? (i := 975) (by decide +kernel), List.mem_of_getElem? (i := 976) (by decide +kernel)⟩
def lw_privs_3 : List (MethodName × Nat) := [(⟨"PosterWallModel", "readsLaw", "()I"⟩, 28), (⟨"PosterWallModel", "lawless", "(I)I"⟩, 28), (⟨"PosterWallModel", "isPoster", "(I)Z"⟩, 28), (⟨"PosterWallModel", "posterBy", "(II)I"⟩, 28), (⟨"PosterWallModel", "find", "()V"⟩, 28), (⟨"PosterWallModel", "lives", "()V"⟩, 28), (⟨"PosterWallModel", "tearsOff", "(I)V"⟩, 28), (⟨"PosterWallModel", "isTorn", "(I)V"⟩, 28), (⟨"PosterWallModel", "sticks", "(I)V"⟩, 28), (⟨"PosterWallModel", "reads", "(II)V"⟩, 28), (⟨"PosterWallModel", "thickOf", "(II)I"⟩, 28), (⟨"PosterWallModel", "bleaches", "(I)V"⟩, 28), (⟨"PosterWallModel", "isObeyed", "(I)Z"⟩, 28), (⟨"PosterWallModel", "daysBy", "(I)I"⟩, 28), (⟨"PosterWallModel", "unreadNow", "()I"⟩, 28), (⟨"PosterWallModel", "readOf", "(I)I"⟩, 28)]
theorem lw_r3 : ∀ q ∈ lw_privs_3, lw_okq q := List.forall_mem_cons.mpr ⟨lw_p32, List.forall_mem_cons.mpr ⟨lw_p33, List.forall_mem_cons.mpr ⟨lw_p34, List.forall_mem_cons.mpr ⟨lw_p35, List.forall_mem_cons.mpr ⟨lw_p36, List.forall_mem_cons.mpr ⟨lw_p37, List.forall_mem_cons.mpr ⟨lw_p38, List.forall_mem_cons.mpr ⟨lw_p39, List.forall_mem_cons.mpr ⟨lw_p40, List.forall_mem_cons.mpr ⟨lw_p41, List.forall_mem_cons.mpr ⟨lw_p42, List.forall_mem_cons.mpr ⟨lw_p43, List.forall_mem_cons.mpr ⟨lw_p44, List.forall_mem_cons.mpr ⟨lw_p45, List.forall_mem_cons.mpr ⟨lw_p46, List.forall_mem_cons.mpr ⟨lw_p47, fun _ h => absurd h List.not_mem_nil⟩⟩⟩⟩⟩⟩⟩⟩⟩⟩⟩⟩⟩⟩⟩⟩
theorem lw_p48 : lw_okq (⟨"PosterWallModel", "oftenNow", "()I"⟩, 28) := ⟨⟨by decide +kernel, by decide +kernel⟩, List.mem_of_getElem? (i := 681) (by decide +kernel), List.mem_of_getElem? (i := 983) (by decide +kernel), List.mem_of_getElem? (i := 984) (by decide +kernel)⟩
theorem lw_p49 : lw_okq (⟨"PosterWallModel", "ripOf", "(II)I"⟩, 28) := ⟨⟨by decide +kernel, by decide +kernel⟩, List.mem_of_getElem? (i := 681) (by decide +kernel), List.mem_of_getElem? (i := 992) (by decide +kernel), List.mem_of_getElem? (i := 993) (by decide +kernel)⟩
theorem lw_p50 : lw_okq (⟨"PosterWallModel", "isObeyedBy", "(III)Z"⟩, 28) := ⟨⟨by decide +kernel, by decide +kernel⟩, List.mem_of_getElem? (i := 681) (by decide +kernel), List.mem_of_getElem? (i := 996) (by decide +kernel), List.mem_of_getElem? (i := 997) (by decide +kernel)⟩
theorem lw_p51 : lw_okq (⟨"PosterWallModel", "wetOf", "(I)I"⟩, 28) := ⟨⟨by decide +kernel, by decide +kernel⟩, List.mem_of_getElem? (i := 681) (by decide +kernel), List.mem_of_getElem? (i := 1004) (by decide +kernel), List.mem_of_getElem? (i := 1005) (by decide +kernel)⟩
theorem lw_p52 : lw_okq (⟨"PosterWallModel", "pasteOf", "(II)I"⟩, 28) := ⟨⟨by decide +kernel, by decide +kernel⟩, List.mem_of_getElem? (i := 681) (by decide +kernel), List.mem_of_getElem? (i := 1012) (by decide +kernel), List.mem_of_getElem? (i := 1013) (by decide +kernel)⟩
theorem lw_p53 : lw_okq (⟨"PosterWallModel", "stickOf", "(II)I"⟩, 28) := ⟨⟨by decide +kernel, by decide +kernel⟩, List.mem_of_getElem? (i := 681) (by decide +kernel), List.mem_of_getElem? (i := 1020) (by decide +kernel), List.mem_of_getElem? (i := 1021) (by decide +kernel)⟩
theorem lw_p54 : lw_okq (⟨"PosterWallModel", "neverNow", "()I"⟩, 28) := ⟨⟨by decide +kernel, by decide +kernel⟩, List.mem_of_getElem? (i := 681) (by decide +kernel), List.mem_of_getElem? (i := 1036) (by decide +kernel), List.mem_of_getElem? (i := 1037) (by decide +kernel)⟩
theorem lw_p55 : lw_okq (⟨"PosterWallModel", "isSeen", "()Z"⟩, 28) := ⟨⟨by decide +kernel, by decide +kernel⟩, List.mem_of_getElem? (i := 681) (by decide +kernel), List.mem_of_getElem? (i := 1040) (by decide +kernel), List.mem_of_getElem? (i := 1041) (by decide +kernel)⟩
theorem lw_p56 : lw_okq (⟨"PosterWallModel", "wasOf", "(II)I"⟩, 28) := ⟨⟨by decide +kernel, by decide +kernel⟩, List.mem_of_getElem? (i := 681) (by decide +kernel), List.mem_of_getElem? (i := 1048) (by decide +kernel), List.mem_of_getElem? (i := 1049) (by decide +kernel)⟩
theorem lw_p57 : lw_okq (⟨"PosterWallModel", "thicksOf", "(I)I"⟩, 28) := ⟨⟨by decide +kernel, by decide +kernel⟩, List.mem_of_getElem? (i := 681) (by decide +kernel), List.mem_of_getElem? (i := 1052) (by decide +kernel), List.mem_of_getElem? (i := 1053) (by decide +kernel)⟩
theorem lw_p58 : lw_okq (⟨"PosterWallModel", "yearsOf", "(I)I"⟩, 28) := ⟨⟨by decide +kernel, by decide +kernel⟩, List.mem_of_getElem? (i := 681) (by decide +kernel), List.mem_of_getElem? (i := 1056) (by decide +kernel), List.mem_of_getElem? (i := 1057) (by decide +kernel)⟩
theorem lw_p59 : lw_okq (⟨"PosterWallModel", "askOf", "(I)I"⟩, 28) := ⟨⟨by decide +kernel, by decide +kernel⟩, List.mem_of_getElem? (i := 681) (by decide +kernel), List.mem_of_getElem? (i := 1064) (by decide +kernel), List.mem_of_getElem? (i := 1065) (by decide +kernel)⟩
theorem lw_p60 : lw_okq (⟨"PosterWallModel", "showerOf", "(IIII)J"⟩, 28) := ⟨⟨by decide +kernel, by decide +kernel⟩, List.mem_of_getElem? (i := 681) (by decide +kernel), List.mem_of_getElem? (i := 1074) (by decide +kernel), List.mem_of_getElem? (i := 1075) (by decide +kernel)⟩
theorem lw_p61 : lw_okq (⟨"PosterWallModel", "seasonOf", "(III)I"⟩, 28) := ⟨⟨by decide +kernel, by decide +kernel⟩, List.mem_of_getElem? (i := 681) (by decide +kernel), List.mem_of_getElem? (i := 1090) (by decide +kernel), List.mem_of_getElem? (i := 1091) (by decide +kernel)⟩
theorem lw_p62 : lw_okq (⟨"PosterWallModel", "lot", "(I)I"⟩, 28) := ⟨⟨by decide +kernel, by decide +kernel⟩, List.mem_of_getElem? (i := 681) (by decide +kernel), List.mem_of_getElem? (i := 1094) (by decide +kernel), List.mem_of_getElem? (i := 1095) (by decide +kernel)⟩
theorem lw_p63 : lw_okq (⟨"PosterWallModel", "letters", "()I"⟩, 28) := ⟨⟨by decide +kernel, by decide +kernel⟩, List.mem_of_getElem? (i := 681) (by decide +kernel), List.mem_of_getElem? (i := 1113) (by decide +kernel), List.mem_of_getElem? (i := 1114) (by decide +kernel)⟩
def lw_privs_4 : List (MethodName × Nat) := [(⟨"PosterWallModel", "oftenNow", "()I"⟩, 28), (⟨"PosterWallModel", "ripOf", "(II)I"⟩, 28), (⟨"PosterWallModel", "isObeyedBy", "(III)Z"⟩, 28), (⟨"PosterWallModel", "wetOf", "(I)I"⟩, 28), (⟨"PosterWallModel", "pasteOf", "(II)I"⟩, 28), (⟨"PosterWallModel", "stickOf", "(II)I"⟩, 28), (⟨"PosterWallModel", "neverNow", "()I"⟩, 28), (⟨"PosterWallModel", "isSeen", "()Z"⟩, 28), (⟨"PosterWallModel", "wasOf", "(II)I"⟩, 28), (⟨"PosterWallModel", "thicksOf", "(I)I"⟩, 28), (⟨"PosterWallModel", "yearsOf", "(I)I"⟩, 28), (⟨"PosterWallModel", "askOf", "(I)I"⟩, 28), (⟨"PosterWallModel", "showerOf", "(IIII)J"⟩, 28), (⟨"PosterWallModel", "seasonOf", "(III)I"⟩, 28), (⟨"PosterWallModel", "lot", "(I)I"⟩, 28), (⟨"PosterWallModel", "letters", "()I"⟩, 28)]
theorem lw_r4 : ∀ q ∈ lw_privs_4, lw_okq q := List.forall_mem_cons.mpr ⟨lw_p48, List.forall_mem_cons.mpr ⟨lw_p49, List.forall_mem_cons.mpr ⟨lw_p50, List.forall_mem_cons.mpr ⟨lw_p51, List.forall_mem_cons.mpr ⟨lw_p52, List.forall_mem_cons.mpr ⟨lw_p53, List.forall_mem_cons.mpr ⟨lw_p54, List.forall_mem_cons.mpr ⟨lw_p55, List.forall_mem_cons.mpr ⟨lw_p56, List.forall_mem_cons.mpr ⟨lw_p57, List.forall_mem_cons.mpr ⟨lw_p58, List.forall_mem_cons.mpr ⟨lw_p59, List.forall_mem_cons.mpr ⟨lw_p60, List.forall_mem_cons.mpr ⟨lw_p61, List.forall_mem_cons.mpr ⟨lw_p62, List.forall_mem_cons.mpr ⟨lw_p63, fun _ h => absurd h List.not_mem_nil⟩⟩⟩⟩⟩⟩⟩⟩⟩⟩⟩⟩⟩⟩⟩⟩
theorem lw_p64 : lw_okq (⟨"PosterWallModel", "tellsDay", "(JI)J"⟩, 28) := ⟨⟨by decide +kernel, by decide +kernel⟩, List.mem_of_getElem? (i := 681) (by decide +kernel), List.mem_of_getElem? (i := 1124) (by decide +kernel), List.mem_of_getElem? (i := 1125) (by decide +kernel)⟩
theorem lw_p65 : lw_okq (⟨"PosterWallModel", "tellsPoster", "(JI)J"⟩, 28) := ⟨⟨by decide +kernel, by decide +kernel⟩, List.mem_of_getElem? (i := 681) (by decide +kernel), List.mem_of_getElem? (i := 1128) (by decide +kernel), List.mem_of_getElem? (i := 1129) (by decide +kernel)⟩
def lw_privs_5 : List (MethodName × Nat) := [(⟨"PosterWallModel", "tellsDay", "(JI)J"⟩, 28), (⟨"PosterWallModel", "tellsPoster", "(JI)J"⟩, 28)]
theorem lw_r5 : ∀ q ∈ lw_privs_5, lw_okq q := List.forall_mem_cons.mpr ⟨lw_p64, List.forall_mem_cons.mpr ⟨lw_p65, fun _ h => absurd h List.not_mem_nil⟩⟩
def lw_privs : List (MethodName × Nat) := lw_privs_1 ++ (lw_privs_2 ++ (lw_privs_3 ++ (lw_privs_4 ++ (lw_privs_5))))
def lw_tbl : List Cond := k2_sels lw_privs ++ tables_1
theorem lw_privs_ok : ∀ q ∈ lw_privs, lw_okq q := by
  show ∀ q ∈ lw_privs_1 ++ (lw_privs_2 ++ (lw_privs_3 ++ (lw_privs_4 ++ (lw_privs_5)))), lw_okq q
  exact List.forall_mem_append.mpr ⟨lw_r1, List.forall_mem_append.mpr ⟨lw_r2, List.forall_mem_append.mpr ⟨lw_r3, List.forall_mem_append.mpr ⟨lw_r4, lw_r5⟩⟩⟩⟩
end
section
def RB : String := "PosterWall$Bill"
def TB : u_T := fun k => match k with
  | 0 => ("PosterWall$Bill", "word", "[I", true)
  | 1 => ("PosterWall$Bill", "day", "I", false)
  | 2 => ("PosterWall$Bill", "column", "I", false)
  | 3 => ("PosterWall$Bill", "colour", "I", false)
  | 4 => ("PosterWall$Bill", "thick", "I", false)
  | _ => ("PosterWall$Bill", "size", "I", false)
def RP : String := "PosterWall$Pile"
def TP : u_T := fun k => match k with
  | 0 => ("PosterWall$Pile", "heights", "[I", true)
  | 1 => ("PosterWall$Pile", "owners", "[I", true)
  | _ => ("PosterWall$Pile", "inks", "[I", true)
def RN : String := "PosterWall$Plan"
def TN : u_T := fun k => match k with
  | 0 => ("PosterWall$Plan", "bills", "[LPosterWall$Bill;", true)
  | 1 => ("PosterWall$Plan", "rains", "[I", true)
  | 2 => ("PosterWall$Plan", "law", "[I", true)
  | 3 => ("PosterWall$Plan", "tearDays", "[I", true)
  | 4 => ("PosterWall$Plan", "tearColumns", "[I", true)
  | 5 => ("PosterWall$Plan", "billCount", "I", false)
  | 6 => ("PosterWall$Plan", "rainCount", "I", false)
  | 7 => ("PosterWall$Plan", "lawCount", "I", false)
  | 8 => ("PosterWall$Plan", "tearCount", "I", false)
  | _ => ("PosterWall$Plan", "spared", "I", false)
def RR : String := "PosterWall$Row"
def TR : u_T := fun k => match k with
  | 0 => ("PosterWall$Row", "items", "[I", true)
  | 1 => ("PosterWall$Row", "lost", "Z", false)
  | 2 => ("PosterWall$Row", "form", "I", false)
  | _ => ("PosterWall$Row", "size", "I", false)
def RS : String := "PosterWall$Sights"
def TS : u_T := fun k => match k with
  | 0 => ("PosterWall$Sights", "days", "[I", true)
  | 1 => ("PosterWall$Sights", "columns", "[I", true)
  | 2 => ("PosterWall$Sights", "letters", "[I", true)
  | _ => ("PosterWall$Sights", "count", "I", false)
def RT : String := "PosterWall$Stage"
def TT : u_T := fun k => match k with
  | 0 => ("PosterWall$Stage", "plan", "LPosterWall$Plan;", true)
  | 1 => ("PosterWall$Stage", "pile", "LPosterWall$Pile;", true)
  | _ => ("PosterWall$Stage", "facts", "[I", true)
def RX : String := "PosterWall$Text"
def TX : u_T := fun k => match k with
  | 0 => ("PosterWall$Text", "bytes", "[I", true)
  | 1 => ("PosterWall$Text", "size", "I", false)
  | _ => ("PosterWall$Text", "fault", "I", false)
def RW : String := "PosterWall"
def TW : u_T := fun k => match k with
  | 0 => ("PosterWall", "texts", "[LPosterWall$Text;", true)
  | 1 => ("PosterWall", "plan", "LPosterWall$Plan;", true)
  | 2 => ("PosterWall", "told", "LPosterWall$Stage;", true)
  | 3 => ("PosterWall", "trial", "LPosterWall$Stage;", true)
  | 4 => ("PosterWall", "saved", "[LPosterWall$Pile;", true)
  | 5 => ("PosterWall", "sights", "LPosterWall$Sights;", true)
  | 6 => ("PosterWall", "rows", "[LPosterWall$Row;", true)
  | 7 => ("PosterWall", "otherRains", "[I", true)
  | 8 => ("PosterWall", "tally", "[I", true)
  | 9 => ("PosterWall", "found", "[I", true)
  | 10 => ("PosterWall", "chance", "[J", true)
  | 11 => ("PosterWall", "toldIsPlayed", "Z", false)
  | _ => ("PosterWall", "latestFinding", "I", false)
def RM : String := "PosterWallModel"
def TM : u_T := fun k => match k with
  | 0 => ("PosterWallModel", "forms", "[I", true)
  | 1 => ("PosterWallModel", "sizes", "[I", true)
  | 2 => ("PosterWallModel", "items", "[I", true)
  | 3 => ("PosterWallModel", "moved", "[I", true)
  | 4 => ("PosterWallModel", "latest", "I", false)
  | 5 => ("PosterWallModel", "bytes", "[I", true)
  | 6 => ("PosterWallModel", "typed", "[I", true)
  | 7 => ("PosterWallModel", "posters", "I", false)
  | 8 => ("PosterWallModel", "poster", "[I", true)
  | 9 => ("PosterWallModel", "letter", "[I", true)
  | 10 => ("PosterWallModel", "rains", "I", false)
  | 11 => ("PosterWallModel", "rain", "[I", true)
  | 12 => ("PosterWallModel", "law", "[I", true)
  | 13 => ("PosterWallModel", "tears", "I", false)
  | 14 => ("PosterWallModel", "tear", "[I", true)
  | 15 => ("PosterWallModel", "gone", "I", false)
  | 16 => ("PosterWallModel", "oddDay", "I", false)
  | 17 => ("PosterWallModel", "oddFirst", "I", false)
  | 18 => ("PosterWallModel", "oddSecond", "I", false)
  | 19 => ("PosterWallModel", "layers", "[I", true)
  | 20 => ("PosterWallModel", "lies", "[I", true)
  | 21 => ("PosterWallModel", "ink", "[I", true)
  | 22 => ("PosterWallModel", "kept", "[I", true)
  | 23 => ("PosterWallModel", "sights", "I", false)
  | 24 => ("PosterWallModel", "sight", "[I", true)
  | 25 => ("PosterWallModel", "alike", "[I", true)
  | 26 => ("PosterWallModel", "told", "[I", true)
  | _ => ("PosterWallModel", "drawn", "I", false)
abbrev wCl : List vw_C := [(RB, TB, 6), (RP, TP, 3), (RN, TN, 10), (RR, TR, 4), (RS, TS, 4), (RT, TT, 3), (RX, TX, 3), (RW, TW, 13), (RM, TM, 28)]
/-- how many of a family there are: objects by class 0 to 8, arrays from 9 on -/
def NI (c : Nat) : Nat := match c with
  | 0 => 8
  | 1 => 12
  | 2 => 1
  | 3 => 4
  | 4 => 1
  | 5 => 2
  | 6 => 3
  | 7 => 1
  | 8 => 1
  | 9 => 8
  | 10 => 12
  | 11 => 12
  | 12 => 12
  | 13 => 1
  | 14 => 1
  | 15 => 1
  | 16 => 1
  | 17 => 1
  | 18 => 4
  | 19 => 1
  | 20 => 1
  | 21 => 1
  | 22 => 2
  | 23 => 3
  | 24 => 1
  | 25 => 1
  | 26 => 1
  | 27 => 1
  | 28 => 1
  | 29 => 1
  | 30 => 1
  | 31 => 1
  | 32 => 1
  | 33 => 1
  | 34 => 1
  | 35 => 1
  | 36 => 1
  | 37 => 1
  | 38 => 1
  | 39 => 1
  | 40 => 1
  | 41 => 1
  | 42 => 1
  | 43 => 1
  | 44 => 1
  | 45 => 1
  | 46 => 1
  | 47 => 1
  | 48 => 1
  | _ => 0
def NF (c : Nat) : Nat := match c with
  | 0 => 6
  | 1 => 3
  | 2 => 10
  | 3 => 4
  | 4 => 4
  | 5 => 3
  | 6 => 3
  | 7 => 13
  | 8 => 28
  | _ => 0
/-- what a field of an object refers to: a family, and which of it (none: the same number) -/
def fk (c k : Nat) : Option (Nat × Option Nat) := match c, k with
  | 0, 0 => some (9, none)
  | 1, 0 => some (10, none)
  | 1, 1 => some (11, none)
  | 1, 2 => some (12, none)
  | 2, 0 => some (13, some 0)
  | 2, 1 => some (14, some 0)
  | 2, 2 => some (15, some 0)
  | 2, 3 => some (16, some 0)
  | 2, 4 => some (17, some 0)
  | 3, 0 => some (18, none)
  | 4, 0 => some (19, some 0)
  | 4, 1 => some (20, some 0)
  | 4, 2 => some (21, some 0)
  | 5, 0 => some (2, some 0)
  | 5, 1 => some (1, none)
  | 5, 2 => some (22, none)
  | 6, 0 => some (23, none)
  | 7, 0 => some (24, some 0)
  | 7, 1 => some (2, some 0)
  | 7, 2 => some (5, some 0)
  | 7, 3 => some (5, some 1)
  | 7, 4 => some (25, some 0)
  | 7, 5 => some (4, some 0)
  | 7, 6 => some (26, some 0)
  | 7, 7 => some (27, some 0)
  | 7, 8 => some (28, some 0)
  | 7, 9 => some (29, some 0)
  | 7, 10 => some (30, some 0)
  | 8, 0 => some (31, some 0)
  | 8, 1 => some (32, some 0)
  | 8, 2 => some (33, some 0)
  | 8, 3 => some (34, some 0)
  | 8, 5 => some (35, some 0)
  | 8, 6 => some (36, some 0)
  | 8, 8 => some (37, some 0)
  | 8, 9 => some (38, some 0)
  | 8, 11 => some (39, some 0)
  | 8, 12 => some (40, some 0)
  | 8, 14 => some (41, some 0)
  | 8, 19 => some (42, some 0)
  | 8, 20 => some (43, some 0)
  | 8, 21 => some (44, some 0)
  | 8, 22 => some (45, some 0)
  | 8, 24 => some (46, some 0)
  | 8, 25 => some (47, some 0)
  | 8, 26 => some (48, some 0)
  | _, _ => none
/-- an array of references: the family of its items, the number of the first, its length, the class of arrays -/
def ra (c : Nat) : Option (Nat × Nat × Nat × Nat) := match c with
  | 13 => some (0, 0, 8, 5)
  | 24 => some (6, 0, 3, 2)
  | 25 => some (1, 2, 10, 3)
  | 26 => some (3, 0, 4, 4)
  | _ => none
/-- the length of an array of ints -/
def ln (c i : Nat) : Nat := match c with
  | 9 => 4
  | 10 => 6
  | 11 => 48
  | 12 => 48
  | 14 => 20
  | 15 => 6
  | 16 => 10
  | 17 => 10
  | 18 => 60
  | 19 => 8
  | 20 => 8
  | 21 => 8
  | 22 => 720
  | 23 => (if i = 0 then 79 else if i = 1 then 20 else 6)
  | 27 => 20
  | 28 => 54
  | 29 => 3
  | 31 => 4
  | 32 => 4
  | 33 => 240
  | 34 => 60
  | 35 => 240
  | 36 => 3
  | 37 => 40
  | 38 => 32
  | 39 => 20
  | 40 => 6
  | 41 => 16
  | 42 => 6
  | 43 => 48
  | 44 => 48
  | 45 => 720
  | 46 => 24
  | 47 => 54
  | 48 => 20
  | _ => 0
/-- is it a family of int arrays -/
def ia (c : Nat) : Bool := match c with
  | 9 => true
  | 10 => true
  | 11 => true
  | 12 => true
  | 14 => true
  | 15 => true
  | 16 => true
  | 17 => true
  | 18 => true
  | 19 => true
  | 20 => true
  | 21 => true
  | 22 => true
  | 23 => true
  | 27 => true
  | 28 => true
  | 29 => true
  | 31 => true
  | 32 => true
  | 33 => true
  | 34 => true
  | 35 => true
  | 36 => true
  | 37 => true
  | 38 => true
  | 39 => true
  | 40 => true
  | 41 => true
  | 42 => true
  | 43 => true
  | 44 => true
  | 45 => true
  | 46 => true
  | 47 => true
  | 48 => true
  | _ => false
def CI : List (Nat × Nat) := [(0, 0), (0, 1), (0, 2), (0, 3), (0, 4), (0, 5), (0, 6), (0, 7), (1, 0), (1, 1), (1, 2), (1, 3), (1, 4), (1, 5), (1, 6), (1, 7), (1, 8), (1, 9), (1, 10), (1, 11), (2, 0), (3, 0), (3, 1), (3, 2), (3, 3), (4, 0), (5, 0), (5, 1), (6, 0), (6, 1), (6, 2), (7, 0), (8, 0), (9, 0), (9, 1), (9, 2), (9, 3), (9, 4), (9, 5), (9, 6), (9, 7), (10, 0), (10, 1), (10, 2), (10, 3), (10, 4), (10, 5), (10, 6), (10, 7), (10, 8), (10, 9), (10, 10), (10, 11), (11, 0), (11, 1), (11, 2), (11, 3), (11, 4), (11, 5), (11, 6), (11, 7), (11, 8), (11, 9), (11, 10), (11, 11), (12, 0), (12, 1), (12, 2), (12, 3), (12, 4), (12, 5), (12, 6), (12, 7), (12, 8), (12, 9), (12, 10), (12, 11), (13, 0), (14, 0), (15, 0), (16, 0), (17, 0), (18, 0), (18, 1), (18, 2), (18, 3), (19, 0), (20, 0), (21, 0), (22, 0), (22, 1), (23, 0), (23, 1), (23, 2), (24, 0), (25, 0), (26, 0), (27, 0), (28, 0), (29, 0), (30, 0), (31, 0), (32, 0), (33, 0), (34, 0), (35, 0), (36, 0), (37, 0), (38, 0), (39, 0), (40, 0), (41, 0), (42, 0), (43, 0), (44, 0), (45, 0), (46, 0), (47, 0), (48, 0)]
def off (c : Nat) : Nat := match c with
  | 0 => 0
  | 1 => 8
  | 2 => 20
  | 3 => 21
  | 4 => 25
  | 5 => 26
  | 6 => 28
  | 7 => 31
  | 8 => 32
  | 9 => 33
  | 10 => 41
  | 11 => 53
  | 12 => 65
  | 13 => 77
  | 14 => 78
  | 15 => 79
  | 16 => 80
  | 17 => 81
  | 18 => 82
  | 19 => 86
  | 20 => 87
  | 21 => 88
  | 22 => 89
  | 23 => 91
  | 24 => 94
  | 25 => 95
  | 26 => 96
  | 27 => 97
  | 28 => 98
  | 29 => 99
  | 30 => 100
  | 31 => 101
  | 32 => 102
  | 33 => 103
  | 34 => 104
  | 35 => 105
  | 36 => 106
  | 37 => 107
  | 38 => 108
  | 39 => 109
  | 40 => 110
  | 41 => 111
  | 42 => 112
  | 43 => 113
  | 44 => 114
  | 45 => 115
  | 46 => 116
  | 47 => 117
  | 48 => 118
  | _ => 0

abbrev MV : Type := Int32 ⊕ (Int64 ⊕ (Nat × Nat))
abbrev Mem : Type := (Nat → Nat → Nat → Int32) × (Nat → Int64)
/-- classes, slots, array classes, addresses -/
abbrev WX : Type := (Nat → ClassId) × (Nat → Nat → Nat) × (Nat → ClassId) × (Nat → Nat → Nat)
abbrev WX.D (X : WX) : va_G := (X.1, X.2.1)
abbrev WX.kA (X : WX) : Nat → ClassId := X.2.2.1
abbrev WX.ad (X : WX) : Nat → Nat → Nat := X.2.2.2
def vv (X : WX) (v : MV) : Value := match v with
  | .inl x => .int x
  | .inr (.inl x) => .long x
  | .inr (.inr q) => .ref (X.ad q.1 q.2)
def tyx (X : WX) : List (ClassId × FieldType) := [(X.kA 0, .int), (X.kA 1, .long), (X.kA 2, .object RX), (X.kA 3, .object RP), (X.kA 4, .object RR), (X.kA 5, .object RB)]
def fv (X : WX) (f : Nat → Int32) (c i k : Nat) : Value := match fk c k with
  | none => .int (f k)
  | some (c', none) => .ref (X.ad c' i)
  | some (c', some z) => .ref (X.ad c' z)
def cellF (X : WX) (f : Nat → Int32) (g : Nat → Int64) (c i : Nat) : va_E :=
  if c < 9 then .inr (c, (List.range (NF c)).map (fv X f c i))
  else if c = 30 then .inl (X.kA 1, 2, .inr (.inl g))
  else match ra c with
    | some (c', o, n, k) => .inl (X.kA k, n, .inr (.inr (.inr (.inr (fun j => some (X.ad c' (o + j)))))))
    | none => .inl (X.kA 0, ln c i, .inl f)
def wsx (X : WX) (u : Mem) : va_W := CI.map (fun q => (X.ad q.1 q.2, cellF X (u.1 q.1 q.2) u.2 q.1 q.2))
def AX (X : WX) : Nat → Prop := fun q => ∃ (k : Nat) (c : Nat × Nat), CI[k]? = some c ∧ q = X.ad c.1 c.2
def InjX (X : WX) : Prop := ∀ (a b : Nat) (p q : Nat × Nat), CI[a]? = some p → CI[b]? = some q → X.ad p.1 p.2 = X.ad q.1 q.2 → a = b
def rd (u : Mem) (c i j : Nat) : Int32 := u.1 c i j
def wr (u : Mem) (c i j : Nat) (v : Int32) : Mem := (fun a b k => if a = c ∧ b = i ∧ k = j then v else u.1 a b k, u.2)
def rdL (u : Mem) (j : Nat) : Int64 := u.2 j
def wrL (u : Mem) (j : Nat) (v : Int64) : Mem := (u.1, vp_updL u.2 j v)
theorem NI_lt {c i : Nat} (h : i < NI c) : c < 49 := by
  by_cases hc : c < 49
  · exact hc
  · exfalso
    unfold NI at h
    split at h <;> omega
theorem CI_at0 : ∀ c, c < 49 → ∀ i, i < NI c → CI[off c + i]? = some (c, i) := by decide +kernel
theorem CI_at {c i : Nat} (h : i < NI c) : CI[off c + i]? = some (c, i) := CI_at0 c (NI_lt h) i h
theorem CI_inv0 : ∀ a, a < 119 → ∀ q, CI[a]? = some q → off q.1 + q.2 = a ∧ q.2 < NI q.1 := by
  intro a ha q hq
  have h : ∀ a, a < 119 → (match CI[a]? with | some q => decide (off q.1 + q.2 = a ∧ q.2 < NI q.1) | none => true) = true := by decide +kernel
  have h1 := h a ha
  rw [hq] at h1
  exact of_decide_eq_true h1
theorem CI_len : CI.length = 119 := by decide +kernel
theorem CI_inv {a : Nat} {q : Nat × Nat} (h : CI[a]? = some q) : off q.1 + q.2 = a ∧ q.2 < NI q.1 :=
  CI_inv0 a (by rw [← CI_len]; exact (List.getElem?_eq_some_iff.mp h).1) q h
theorem wsx_at (X : WX) (u : Mem) {c i : Nat} (h : i < NI c) : (wsx X u)[off c + i]? = some (X.ad c i, cellF X (u.1 c i) u.2 c i) := by
  simp [wsx, List.getElem?_map, CI_at h]
theorem wsx_D {X : WX} (h : InjX X) (u : Mem) : va_D (AX X) (wsx X u) := by
  have at' : ∀ (i : Nat) (p : Nat × va_E), (wsx X u)[i]? = some p → ∃ q : Nat × Nat, CI[i]? = some q ∧ p.1 = X.ad q.1 q.2 := by
    intro i p hp
    rw [wsx, List.getElem?_map] at hp
    cases hq : CI[i]? with
    | none => rw [hq] at hp; cases hp
    | some q => rw [hq] at hp; cases hp; exact ⟨q, rfl, rfl⟩
  refine ⟨fun i j p q hp hq e => ?_, fun k q hq => ?_⟩
  · obtain ⟨a, h1, h2⟩ := at' i p hp
    obtain ⟨b, h3, h4⟩ := at' j q hq
    exact h i j a b h1 h3 (by rw [← h2, ← h4, e])
  · obtain ⟨a, h1, h2⟩ := at' k q hq
    exact ⟨k, a, h1, h2⟩
theorem fk_set (X : WX) (f : Nat → Int32) (c i k : Nat) (v : Int32) (hk : fk c k = none) : ((List.range (NF c)).map (fv X f c i)).set k (.int v) = (List.range (NF c)).map (fv X (upd f k v) c i) := by
  apply List.ext_getElem?
  intro j
  rw [List.getElem?_set]
  by_cases h : k = j
  · subst h
    rw [if_pos rfl]
    by_cases hl : k < NF c
    · rw [if_pos (by simpa using hl)]
      simp [List.getElem?_map, List.getElem?_range hl, fv, hk, upd]
    · rw [if_neg (by simpa using hl)]
      simp [List.getElem?_map, hl]
  · rw [if_neg h]
    by_cases hl : j < NF c
    · simp only [List.getElem?_map, List.getElem?_range hl, Option.map_some, fv]
      cases hj : fk c j with
      | none => simp [upd, Ne.symm h]
      | some q =>
        obtain ⟨c', _ | z⟩ := q <;> rfl
    · simp [List.getElem?_map, hl]
theorem wsx_set {X : WX} {u : Mem} {c i : Nat} (h : i < NI c) (u' : Mem) (e : va_E) (he : cellF X (u'.1 c i) u'.2 c i = e) (ho : ∀ a b, b < NI a → ¬ (a = c ∧ b = i) → cellF X (u'.1 a b) u'.2 a b = cellF X (u.1 a b) u.2 a b) : (wsx X u).set (off c + i) (X.ad c i, e) = wsx X u' := by
  apply List.ext_getElem?
  intro j
  rw [List.getElem?_set]
  by_cases hj : off c + i = j
  · subst hj
    rw [if_pos rfl, wsx_at X u' h, he]
    have := (List.getElem?_eq_some_iff.mp (wsx_at X u h)).1
    rw [if_pos this]
  · rw [if_neg hj]
    simp only [wsx, List.getElem?_map]
    cases hq : CI[j]? with
    | none => rfl
    | some q =>
      obtain ⟨q1, q2⟩ := CI_inv hq
      have hne : ¬ (q.1 = c ∧ q.2 = i) := fun z => hj (by rw [← z.1, ← z.2]; exact q1)
      simp only [Option.map_some]
      rw [ho q.1 q.2 q2 hne]
theorem wr_same (u : Mem) (c i j : Nat) (v : Int32) : (wr u c i j v).1 c i = upd (u.1 c i) j v := by
  funext k
  simp [wr, upd]
theorem wr_other (u : Mem) {c i : Nat} (j : Nat) (v : Int32) {a b : Nat} (h : ¬ (a = c ∧ b = i)) : (wr u c i j v).1 a b = u.1 a b := by
  funext k
  have : ¬ (a = c ∧ b = i ∧ k = j) := fun z => h ⟨z.1, z.2.1⟩
  simp [wr, this]
theorem wsx_wr {X : WX} {u : Mem} {c i j : Nat} {v : Int32} (h : i < NI c) (e : va_E) (he : cellF X (upd (u.1 c i) j v) u.2 c i = e) : (wsx X u).set (off c + i) (X.ad c i, e) = wsx X (wr u c i j v) := by
  refine wsx_set h _ e (by rw [wr_same]; exact he) fun a b _ hne => ?_
  rw [wr_other u j v hne]; rfl
theorem cellF_obj (X : WX) (f : Nat → Int32) (g : Nat → Int64) {c : Nat} (i : Nat) (h : c < 9) : cellF X f g c i = .inr (c, (List.range (NF c)).map (fv X f c i)) := by simp [cellF, h]
theorem ia_not : ∀ c, c < 49 → ia c = true → ¬ c < 9 ∧ c ≠ 30 ∧ ra c = none := by decide +kernel
theorem ia_lt {c : Nat} (h : ia c = true) : c < 49 := by
  by_cases hc : c < 49
  · exact hc
  · exfalso
    unfold ia at h
    split at h <;> first | omega | cases h
theorem cellF_int (X : WX) (f : Nat → Int32) (g : Nat → Int64) {c : Nat} (i : Nat) (h : ia c = true) : cellF X f g c i = .inl (X.kA 0, ln c i, .inl f) := by
  obtain ⟨h1, h2, h3⟩ := ia_not c (ia_lt h) h
  simp [cellF, h1, h2, h3]
theorem cellF_ch (X : WX) (f : Nat → Int32) (g : Nat → Int64) (i : Nat) : cellF X f g 30 i = .inl (X.kA 1, 2, .inr (.inl g)) := by simp [cellF]
theorem ra_not : ∀ c, c < 49 → (ra c).isSome = true → ¬ c < 9 ∧ c ≠ 30 := by decide +kernel
theorem ra_lt {c : Nat} {q : Nat × Nat × Nat × Nat} (h : ra c = some q) : c < 49 := by
  by_cases hc : c < 49
  · exact hc
  · exfalso
    unfold ra at h
    split at h <;> first | omega | cases h
theorem cellF_ref (X : WX) (f : Nat → Int32) (g : Nat → Int64) {c c' o n k : Nat} (i : Nat) (h : ra c = some (c', o, n, k)) : cellF X f g c i = .inl (X.kA k, n, .inr (.inr (.inr (.inr (fun j => some (X.ad c' (o + j))))))) := by
  obtain ⟨h1, h2⟩ := ra_not c (ra_lt h) (by rw [h]; rfl)
  simp [cellF, h1, h2, h]
/-- the words that a callee may be told: those of the tables that stay -/
def tg : List Cond := lw_tbl.filter goodWord
theorem tg_of {w : Cond} (h : w ∈ tg) : w ∈ lw_tbl := (List.mem_filter.mp h).1
theorem tg_goodIn : GoodIn lw_tbl tg := fun w h => ⟨tg_of h, good_of_word (List.mem_filter.mp h).2⟩
theorem tg_goodIn2 : GoodIn tg tg := fun w h => ⟨h, good_of_word (List.mem_filter.mp h).2⟩
def inT (k : Nat) (w : Cond) : Bool := decide (lw_tbl[k]? = some w) && goodWord w
theorem inT_mem {k : Nat} {w : Cond} (h : inT k w = true) : w ∈ tg := by
  simp only [inT, Bool.and_eq_true, decide_eq_true_eq] at h
  exact List.mem_filter.mpr ⟨List.mem_of_getElem? h.1, h.2⟩
def isNest : Cond → Bool
  | .methodLinkNest .. => true
  | _ => false
def nst : List Cond := lw_tbl.filter isNest
def NW (U : State) : Prop := ∀ w ∈ nst, va_Nw w U
def inN (k : Nat) (w : Cond) : Bool := decide (lw_tbl[k]? = some w) && isNest w
theorem inN_mem {k : Nat} {w : Cond} (h : inN k w = true) : w ∈ nst := by
  simp only [inN, Bool.and_eq_true, decide_eq_true_eq] at h
  exact List.mem_filter.mpr ⟨List.mem_of_getElem? h.1, h.2⟩
theorem NW.same {u U : State} (h : u.vm = U.vm) (hZ : NW u) : NW U := by
  intro w hw
  have hn := (List.mem_filter.mp hw).2
  refine va_Nw.same ?_ h (hZ w hw)
  cases w <;> first | rfl | cases hn
theorem NW.warm {s U : State} (hW : s.WarmedH U.vm) (hZ : NW s) : NW U := by
  intro w hw
  have hn := (List.mem_filter.mp hw).2
  have h1 := hZ w hw
  cases w <;> first | exact va_Nw.warmM hW h1 | cases hn
/-- the classes' rows in the tables -/
theorem wCl_in0 : ∀ r ∈ wCl, ∀ w ∈ u_ws r.1 r.2.1 r.2.2, w ∈ lw_tbl := by decide +kernel
theorem wCl_in1 : ∀ r ∈ wCl, ∀ w ∈ u_ws r.1 r.2.1 r.2.2, goodWord w = true := by decide +kernel
theorem wCl_in : ∀ r ∈ wCl, ∀ w ∈ u_ws r.1 r.2.1 r.2.2, w ∈ tg := fun r hr w hw => List.mem_filter.mpr ⟨wCl_in0 r hr w hw, wCl_in1 r hr w hw⟩
theorem wCl_nm : ∀ r ∈ wCl, ∀ a, a < r.2.2 → ∀ b, b < r.2.2 → a ≠ b → (r.2.1 a).2.1 ≠ (r.2.1 b).2.1 := by decide +kernel
def tyf (T : u_T) (k : Nat) : FieldType := (parseFieldDescriptor (T k).2.2.1).getD .int
theorem wCl_ty : ∀ r ∈ wCl, ∀ k, k < r.2.2 → parseFieldDescriptor (r.2.1 k).2.2.1 = some (tyf r.2.1 k) := by decide +kernel
theorem wCl_NF : ∀ c, c < 9 → ∃ C T, wCl[c]? = some (C, T, NF c) := by
  intro c hc
  match c, hc with
  | 0, _ => exact ⟨_, _, rfl⟩
  | 1, _ => exact ⟨_, _, rfl⟩
  | 2, _ => exact ⟨_, _, rfl⟩
  | 3, _ => exact ⟨_, _, rfl⟩
  | 4, _ => exact ⟨_, _, rfl⟩
  | 5, _ => exact ⟨_, _, rfl⟩
  | 6, _ => exact ⟨_, _, rfl⟩
  | 7, _ => exact ⟨_, _, rfl⟩
  | 8, _ => exact ⟨_, _, rfl⟩
end
section
abbrev Sg : Type := MethodName × ByteArray × Nat × Option FieldType
abbrev En : Type := Instr × Nat × Nat × Nat × List Nat × Sg
abbrev Cd : Type := List (Nat × List En)
abbrev Mth : Type := Sg × String × Cd
def kI (a b : Nat) : Int32 := if b = 0 then nI a else - nI a
def kL (a b : Nat) : Int64 := if b = 0 then lN a else - lN a
def pcOf (cd : Cd) (b : Nat) : Nat := (cd.getD b (0, [])).1
def esOf (cd : Cd) (b : Nat) : List En := (cd.getD b (0, [])).2
def rmD (d : Nat) : Room := { frames := d, cells := 0, slots := 0, locals := 40 * d }
def wsG (g : Sg) : List Cond := .code g.1 g.2.1 g.2.2.1 g.2.2.2 :: tg
-- locals
def lk : List (Option MV) → Nat → Option MV
  | [], _ => none
  | x :: _, 0 => x
  | _ :: r, n + 1 => lk r n
def sk : List (Option MV) → Nat → Option MV → List (Option MV)
  | [], _, _ => []
  | _ :: r, 0, v => v :: r
  | x :: r, n + 1, v => x :: sk r n v
def lgq (o : Option MV) : Bool := match o with
  | some (.inr (.inl _)) => true
  | _ => false
def clr (L : List (Option MV)) (i : Nat) : List (Option MV) := match i with
  | 0 => L
  | j + 1 => if lgq (lk L j) = true then sk L j none else L
def st1 (L : List (Option MV)) (i : Nat) (v : MV) : List (Option MV) := sk (clr L i) i (some v)
def st2 (L : List (Option MV)) (i : Nat) (v : MV) : List (Option MV) := sk (sk (clr L i) i (some v)) (i + 1) none
theorem lk_sk (L : List (Option MV)) : ∀ (i j : Nat) (v : Option MV), lk (sk L i v) j = if i = j ∧ j < L.length then v else lk L j := by
  induction L with
  | nil => intro i j v; simp [sk, lk]
  | cons x r ih =>
    intro i j v
    cases i with
    | zero => cases j <;> simp [sk, lk]
    | succ i =>
      cases j with
      | zero => simp [sk, lk]
      | succ j => simp [sk, lk, ih]
theorem sk_len (L : List (Option MV)) : ∀ (i : Nat) (v : Option MV), (sk L i v).length = L.length := by
  induction L with
  | nil => intro i v; rfl
  | cons x r ih =>
    intro i v
    cases i with
    | zero => rfl
    | succ i => simp [sk, ih]
/-- the locals hold at least what the list says -/
def LV (X : WX) (ls : Array Slot) (nL : Nat) (L : List (Option MV)) : Prop := ∃ lv : List (Nat × Value), lv_has ls nL lv ∧ ∀ (i : Nat) (v : MV), lk L i = some v → (i, vv X v) ∈ lv
theorem LV.at {X : WX} {ls : Array Slot} {nL : Nat} {L : List (Option MV)} (h : LV X ls nL L) {i : Nat} {v : MV} (hi : lk L i = some v) : ls[i]? = some (.val (vv X v)) := by
  obtain ⟨lv, h1, h2⟩ := h
  exact h1.2.2 _ (h2 i v hi)
theorem clr_at {L : List (Option MV)} {i j : Nat} {w : MV} (h : lk (clr L i) j = some w) : lk L j = some w ∧ ¬ (j + 1 = i ∧ lgq (some w) = true) := by
  cases i with
  | zero => exact ⟨h, fun z => by omega⟩
  | succ i =>
    simp only [clr] at h
    split at h
    · next hg =>
      rw [lk_sk] at h
      split at h
      · cases h
      · next hn =>
        refine ⟨h, fun z => ?_⟩
        have hj : j = i := by omega
        subst hj
        rw [h] at hg
        have : j < L.length := by
          rcases Nat.lt_or_ge j L.length with q | q
          · exact q
          · exfalso
            have : ∀ (L : List (Option MV)) (j : Nat), L.length ≤ j → lk L j = none := by
              intro L
              induction L with
              | nil => intro j _; rfl
              | cons x r ih => intro j hj; cases j with
                | zero => simp at hj
                | succ j => exact ih j (by simpa using hj)
            rw [this L j q] at h
            cases h
        exact hn ⟨rfl, this⟩
    · next hg =>
      refine ⟨h, fun z => ?_⟩
      have hj : j = i := by omega
      subst hj
      rw [h] at hg
      exact hg z.2
theorem vv_cat (X : WX) (v : MV) : (vv X v).category = if lgq (some v) = true then 2 else 1 := by
  rcases v with x | x | x <;> rfl
theorem LV.st1 {X : WX} {nL : Nat} {L : List (Option MV)} {i : Nat} {v : MV} {lv : List (Nat × Value)} (h2 : ∀ (i : Nat) (v : MV), lk L i = some v → (i, vv X v) ∈ lv) {ls' : Array Slot} (h : lv_has ls' nL ((i, vv X v) :: lv.filter (fun q => !(q.1 == i) && !(q.1 + 1 == i && q.2.category == 2)))) : LV X ls' nL (st1 L i v) := by
  refine ⟨_, h, fun j w hj => ?_⟩
  unfold Jvm.Pilot.CPosterWallLaw_law_r5712_305f43.st1 at hj
  rw [lk_sk] at hj
  split at hj
  · next hc => cases hj; rw [hc.1]; exact List.mem_cons_self
  · next hc =>
    obtain ⟨q1, q2⟩ := clr_at hj
    by_cases hij : i = j
    · subst hij
      exfalso
      have hlen : ∀ L : List (Option MV), (clr L i).length = L.length := by
        intro L; cases i <;> simp only [clr]; split <;> simp [sk_len]
      have : ∀ (L : List (Option MV)) (j : Nat) (w : MV), lk L j = some w → j < L.length := by
        intro L
        induction L with
        | nil => intro j w h; cases h
        | cons x r ih => intro j w h; cases j with
          | zero => simp
          | succ j => have := ih j w h; simp; omega
      exact hc ⟨rfl, this _ _ _ hj⟩
    · refine List.mem_cons_of_mem _ (List.mem_filter.mpr ⟨h2 j w q1, ?_⟩)
      have hne : ¬ j = i := fun z => hij z.symm
      rw [vv_cat]
      cases hg : lgq (some w) with
      | false => simp [hne]
      | true =>
        have : ¬ j + 1 = i := fun z => q2 ⟨z, hg⟩
        simp [hne, this]
theorem LV.st2 {X : WX} {nL : Nat} {L : List (Option MV)} {i : Nat} {v : MV} {lv : List (Nat × Value)} (h2 : ∀ (i : Nat) (v : MV), lk L i = some v → (i, vv X v) ∈ lv) {ls' : Array Slot} (h : lv_has ls' nL ((i, vv X v) :: lv.filter (fun q => !(q.1 == i) && (!(q.1 == i + 1) && !(q.1 + 1 == i && q.2.category == 2))))) : LV X ls' nL (st2 L i v) := by
  have h1 : ∀ (j : Nat) (w : MV), lk (Jvm.Pilot.CPosterWallLaw_law_r5712_305f43.st1 L i v) j = some w → j ≠ i + 1 → (j, vv X w) ∈ ((i, vv X v) :: lv.filter (fun q => !(q.1 == i) && (!(q.1 == i + 1) && !(q.1 + 1 == i && q.2.category == 2)))) := by
    intro j w hj hji
    unfold Jvm.Pilot.CPosterWallLaw_law_r5712_305f43.st1 at hj
    rw [lk_sk] at hj
    split at hj
    · next hc => cases hj; rw [hc.1]; exact List.mem_cons_self
    · next hc =>
      obtain ⟨q1, q2⟩ := clr_at hj
      by_cases hij : i = j
      · subst hij
        exfalso
        have : ∀ (L : List (Option MV)) (j : Nat) (w : MV), lk L j = some w → j < L.length := by
          intro L
          induction L with
          | nil => intro j w h; cases h
          | cons x r ih => intro j w h; cases j with
            | zero => simp
            | succ j => have := ih j w h; simp; omega
        exact hc ⟨rfl, this _ _ _ hj⟩
      · refine List.mem_cons_of_mem _ (List.mem_filter.mpr ⟨h2 j w q1, ?_⟩)
        have hne : ¬ j = i := fun z => hij z.symm
        rw [vv_cat]
        cases hg : lgq (some w) with
        | false => simp [hne, hji]
        | true =>
          have : ¬ j + 1 = i := fun z => q2 ⟨z, hg⟩
          simp [hne, this, hji]
  refine ⟨_, h, fun j w hj => ?_⟩
  unfold Jvm.Pilot.CPosterWallLaw_law_r5712_305f43.st2 at hj
  rw [lk_sk] at hj
  split at hj
  · cases hj
  · next hc =>
    refine h1 j w hj fun z => ?_
    subst z
    have : ∀ (L : List (Option MV)) (j : Nat) (w : MV), lk L j = some w → j < L.length := by
      intro L
      induction L with
      | nil => intro j w h; cases h
      | cons x r ih => intro j w h; cases j with
        | zero => simp
        | succ j => have := ih j w h; simp; omega
    exact hc ⟨rfl, this _ _ _ hj⟩
/-- fewer known locals -/
def leL : List (Option MV) → List (Option MV) → Prop
  | [], _ => True
  | none :: r, L => leL r L.tail
  | some v :: r, L => L.head? = some (some v) ∧ leL r L.tail
theorem leL_at : ∀ (A B : List (Option MV)) (i : Nat) (v : MV), leL A B → lk A i = some v → lk B i = some v := by
  intro A
  induction A with
  | nil => intro B i v _ h; cases h
  | cons x r ih =>
    intro B i v hle h
    cases B with
    | nil =>
      cases i with
      | zero =>
        cases x with
        | none => cases h
        | some w => exact absurd hle.1 (by simp)
      | succ i =>
        have : leL r [] := by cases x with
          | none => exact hle
          | some w => exact hle.2
        have := ih [] i v this h
        cases this
    | cons y t =>
      cases i with
      | zero =>
        cases x with
        | none => cases h
        | some w =>
          have := hle.1
          simp at this
          subst this
          exact h
      | succ i =>
        have h1 : leL r t := by cases x with
          | none => exact hle
          | some w => exact hle.2
        exact ih t i v h1 h
theorem LV.le {X : WX} {ls : Array Slot} {nL : Nat} {A B : List (Option MV)} (h : LV X ls nL B) (hle : leL A B) : LV X ls nL A := by
  obtain ⟨lv, h1, h2⟩ := h
  exact ⟨lv, h1, fun i v hi => h2 i v (leL_at A B i v hle hi)⟩
-- what the operand stack must hold
def pI (st : List MV) (K : Int32 → List MV → Prop) : Prop := match st with
  | .inl x :: t => K x t
  | _ => False
def pL (st : List MV) (K : Int64 → List MV → Prop) : Prop := match st with
  | .inr (.inl x) :: t => K x t
  | _ => False
def pR (st : List MV) (K : Nat → Nat → List MV → Prop) : Prop := match st with
  | .inr (.inr (c, i)) :: t => K c i t
  | _ => False
def pA (st : List MV) (K : MV → List MV → Prop) : Prop := match st with
  | .inl x :: t => K (.inl x) t
  | .inr (.inr q) :: t => K (.inr (.inr q)) t
  | _ => False
def oI (o : Option MV) (K : Int32 → Prop) : Prop := match o with
  | some (.inl x) => K x
  | _ => False
def oL (o : Option MV) (K : Int64 → Prop) : Prop := match o with
  | some (.inr (.inl x)) => K x
  | _ => False
def oR (o : Option MV) (K : Nat → Nat → Prop) : Prop := match o with
  | some (.inr (.inr (c, i))) => K c i
  | _ => False
theorem pI_inv {st : List MV} {K : Int32 → List MV → Prop} (h : pI st K) : ∃ x t, st = .inl x :: t ∧ K x t := by
  rcases st with _ | ⟨x | x | x, t⟩ <;> first | exact h.elim | exact ⟨_, _, rfl, h⟩
theorem pL_inv {st : List MV} {K : Int64 → List MV → Prop} (h : pL st K) : ∃ x t, st = .inr (.inl x) :: t ∧ K x t := by
  rcases st with _ | ⟨x | x | x, t⟩ <;> first | exact h.elim | exact ⟨_, _, rfl, h⟩
theorem pR_inv {st : List MV} {K : Nat → Nat → List MV → Prop} (h : pR st K) : ∃ c i t, st = .inr (.inr (c, i)) :: t ∧ K c i t := by
  rcases st with _ | ⟨x | x | ⟨c, i⟩, t⟩ <;> first | exact h.elim | exact ⟨_, _, _, rfl, h⟩
theorem pA_inv {st : List MV} {K : MV → List MV → Prop} (h : pA st K) : ∃ v t, st = v :: t ∧ lgq (some v) = false ∧ K v t := by
  rcases st with _ | ⟨x | x | x, t⟩ <;> first | exact h.elim | exact ⟨_, _, rfl, rfl, h⟩
theorem oI_inv {o : Option MV} {K : Int32 → Prop} (h : oI o K) : ∃ x, o = some (.inl x) ∧ K x := by
  rcases o with _ | x | x | x <;> first | exact h.elim | exact ⟨_, rfl, h⟩
theorem oL_inv {o : Option MV} {K : Int64 → Prop} (h : oL o K) : ∃ x, o = some (.inr (.inl x)) ∧ K x := by
  rcases o with _ | x | x | x <;> first | exact h.elim | exact ⟨_, rfl, h⟩
theorem oR_inv {o : Option MV} {K : Nat → Nat → Prop} (h : oR o K) : ∃ c i, o = some (.inr (.inr (c, i))) ∧ K c i := by
  rcases o with _ | x | x | ⟨c, i⟩ <;> first | exact h.elim | exact ⟨_, _, rfl, h⟩
def cats : List MV → Nat
  | [] => 0
  | v :: r => (match v with | .inr (.inl _) => 2 | _ => 1) + cats r
theorem cats_eq (X : WX) (t : List MV) : ((t.map (vv X)).map fun v => v.category).sum = cats t := by
  induction t with
  | nil => rfl
  | cons v r ih =>
    simp only [List.map_cons, List.sum_cons, ih, cats]
    rcases v with x | x | x <;> rfl
def pops : Nat → List MV → List MV → (List MV → List MV → Prop) → Prop
  | 0, acc, st, K => K acc st
  | n + 1, acc, v :: st, K => pops n (v :: acc) st K
  | _ + 1, _, [], _ => False
theorem pops_inv : ∀ (n : Nat) (acc st : List MV) (K : List MV → List MV → Prop), pops n acc st K → ∃ as t, as.length = n ∧ st = as.reverse ++ t ∧ K (as ++ acc) t := by
  intro n
  induction n with
  | zero => intro acc st K h; exact ⟨[], st, rfl, rfl, h⟩
  | succ n ih =>
    intro acc st K h
    cases st with
    | nil => exact h.elim
    | cons v st =>
      obtain ⟨as, t, h1, h2, h3⟩ := ih (v :: acc) st K h
      exact ⟨as ++ [v], t, by simp [h1], by simp [h2], by simpa using h3⟩
def pushR (r : Option MV) (t : List MV) : List MV := match r with
  | none => t
  | some v => v :: t
def irm (x y : Int32) : Int32 := x - x / y * y
def lrm (x y : Int64) : Int64 := x - x / y * y
def ush (x y : Int32) : Int32 := (x.toUInt32 >>> (y.toUInt32 &&& Int32.toUInt32 31)).toInt32
def alen (c i : Nat) : Option Nat := if ia c = true then some (ln c i) else match ra c with
  | some q => some q.2.2.1
  | none => if c = 30 then some 2 else none
def isZ (a k : Nat) : Bool := (a == 3 && k == 1) || (a == 7 && k == 11)
def fm (u : Mem) (a i k : Nat) : MV := match fk a k with
  | none => .inl (rd u a i k)
  | some (c', none) => .inr (.inr (c', i))
  | some (c', some z) => .inr (.inr (c', z))
def cpy (u : Mem) (c i c' i' sp dp n : Nat) : Mem := (fun a b => if a = c' ∧ b = i' then va_cpy (u.1 c i) (u.1 c' i') sp dp n else u.1 a b, u.2)
def sw : List Nat → Nat → Int32 → (Nat → Prop) → Nat → Prop
  | [], _, _, K, D => K D
  | b :: bs, j, x, K, D => (x = nI j → K b) ∧ (¬ x = nI j → sw bs (j + 1) x K D)
/-- where a method may end, and with what -/
def retAt (Y : Mth) (r : Option MV) (pc : Nat) : Prop := match r with
  | none => decode Y.1.2.1 pc = .ok (.return_, 1) ∧ Y.1.2.2.2 = none
  | some (.inl v) => decode Y.1.2.1 pc = .ok (.ireturn, 1) ∧ (Y.1.2.2.2 = some .int ∨ (Y.1.2.2.2 = some .boolean ∧ (v = nI 0 ∨ v = nI 1)))
  | some (.inr (.inl _)) => decode Y.1.2.1 pc = .ok (.lreturn, 1) ∧ Y.1.2.2.2 = some .long
  | _ => False
def Ctx (d : Nat) (X : WX) (Y : Mth) (Q : Option MV → Mem → Prop) (p : Program) (l : Launch) (e : Env) (R : Room) (s : State) (m : MethodId) (args : Array Value) (below : List Frame) (meth : Method) (c : Code) (cells slots : Nat) (G : State → Prop) : Prop :=
  p.tables.exec = Jvm.exec ∧ c.code = Y.1.2.1 ∧ c.maxLocals = Y.1.2.2.1 ∧ s.vm.findClass Y.2.1 = some m.cls ∧ (∀ w ∈ tg, w.before args s = true) ∧ va_K X.D wCl (tyx X) s ∧ (InjX X ∧ NW s) ∧ (d ≤ R.frames ∧ 40 * d ≤ R.locals ∧ cells ≤ R.cells ∧ slots ≤ R.slots) ∧
  ∀ (r : Option MV) (u : Mem) (H : Heap) (locs : List Loc) (ls : Array Slot) (pc : Nat), Q r u → va_P X.D wCl (wsx X u) H → va_S (AX X) s.heap H locs → retAt Y r pc → W p l e R s m args below meth c H locs cells slots G (F0 m pc ls (r.toList.map (vv X)))
def Run (d : Nat) (Y : Mth) (pc : Nat) (L : List (Option MV)) (st : List MV) (u : Mem) (Q : Option MV → Mem → Prop) : Prop :=
  ∀ (X : WX) (p : Program) (l : Launch) (e : Env) (R : Room) (s : State) (m : MethodId) (args : Array Value) (below : List Frame) (meth : Method) (c : Code) (cells slots : Nat) (G : State → Prop) (H : Heap) (locs : List Loc) (ls : Array Slot), Ctx d X Y Q p l e R s m args below meth c cells slots G → va_P X.D wCl (wsx X u) H → va_S (AX X) s.heap H locs → LV X ls Y.1.2.2.1 L → W p l e R s m args below meth c H locs cells slots G (F0 m pc ls (st.map (vv X)))
def RunB (d : Nat) (Y : Mth) (b : Nat) (L : List (Option MV)) (st : List MV) (u : Mem) (Q : Option MV → Mem → Prop) : Prop := Run d Y (pcOf Y.2.2 b) L st u Q
def okPc (X : WX) (as : List MV) (u : Mem) : Array Value → State → Prop := fun v U => v = (as.map (vv X)).toArray ∧ va_P X.D wCl (wsx X u) U.heap ∧ va_K X.D wCl (tyx X) U ∧ InjX X ∧ NW U
def okQc (X : WX) (Q : Option MV → Mem → Prop) : Array Value → State → Outcome → State → Prop := fun _ st oc t => (∃ (r : Option MV) (u : Mem), oc = .returned (r.map (vv X)) ∧ Q r u ∧ va_P X.D wCl (wsx X u) t.heap) ∧ va_F (AX X) st t
/-- a method, called with these arguments over this memory, comes back with Q; d frames are there for it -/
def OKm (d : Nat) (g : Sg) (as : List MV) (u : Mem) (Q : Option MV → Mem → Prop) : Prop :=
  ∀ (l : Launch) (X : WX), Met l g.1 (wsG g) (rmD d) (okPc X as u) (okQc X Q) 0 0 (AX X)
def go (d : Nat) (Y : Mth) (Q : Option MV → Mem → Prop) : List En → Nat → List (Option MV) → List MV → Mem → Prop
  | [], b, L, st, u => RunB (d + 1) Y (b + 1) L st u Q
  | (ins, _, a, k, xs, g) :: r, b, L, st, u => match ins with
    | .iload _ => oI (lk L a) fun x => go d Y Q r b L (.inl x :: st) u
    | .iload_n _ => oI (lk L a) fun x => go d Y Q r b L (.inl x :: st) u
    | .lload _ => oL (lk L a) fun x => go d Y Q r b L (.inr (.inl x) :: st) u
    | .lload_n _ => oL (lk L a) fun x => go d Y Q r b L (.inr (.inl x) :: st) u
    | .aload _ => oR (lk L a) fun c i => go d Y Q r b L (.inr (.inr (c, i)) :: st) u
    | .aload_n _ => oR (lk L a) fun c i => go d Y Q r b L (.inr (.inr (c, i)) :: st) u
    | .istore _ => pI st fun x t => go d Y Q r b (st1 L a (.inl x)) t u
    | .istore_n _ => pI st fun x t => go d Y Q r b (st1 L a (.inl x)) t u
    | .lstore _ => pL st fun x t => go d Y Q r b (st2 L a (.inr (.inl x))) t u
    | .lstore_n _ => pL st fun x t => go d Y Q r b (st2 L a (.inr (.inl x))) t u
    | .astore _ => pR st fun c i t => go d Y Q r b (st1 L a (.inr (.inr (c, i)))) t u
    | .astore_n _ => pR st fun c i t => go d Y Q r b (st1 L a (.inr (.inr (c, i)))) t u
    | .iconst _ => go d Y Q r b L (.inl (kI a k) :: st) u
    | .bipush _ => go d Y Q r b L (.inl (kI a k) :: st) u
    | .sipush _ => go d Y Q r b L (.inl (kI a k) :: st) u
    | .ldc _ => go d Y Q r b L (.inl (kI a k) :: st) u
    | .ldc_w _ => go d Y Q r b L (.inl (kI a k) :: st) u
    | .lconst _ => go d Y Q r b L (.inr (.inl (kL a k)) :: st) u
    | .ldc2_w _ => go d Y Q r b L (.inr (.inl (kL a k)) :: st) u
    | .iadd => pI st fun y t => pI t fun x t => go d Y Q r b L (.inl (x + y) :: t) u
    | .isub => pI st fun y t => pI t fun x t => go d Y Q r b L (.inl (x - y) :: t) u
    | .imul => pI st fun y t => pI t fun x t => go d Y Q r b L (.inl (x * y) :: t) u
    | .idiv => pI st fun y t => pI t fun x t => ¬ y = 0 ∧ go d Y Q r b L (.inl (x / y) :: t) u
    | .irem => pI st fun y t => pI t fun x t => ¬ y = 0 ∧ go d Y Q r b L (.inl (irm x y) :: t) u
    | .iand => pI st fun y t => pI t fun x t => go d Y Q r b L (.inl (x &&& y) :: t) u
    | .ior => pI st fun y t => pI t fun x t => go d Y Q r b L (.inl (x ||| y) :: t) u
    | .ishl => pI st fun y t => pI t fun x t => go d Y Q r b L (.inl (x <<< (y &&& 31)) :: t) u
    | .ishr => pI st fun y t => pI t fun x t => go d Y Q r b L (.inl (x >>> (y &&& 31)) :: t) u
    | .iushr => pI st fun y t => pI t fun x t => go d Y Q r b L (.inl (ush x y) :: t) u
    | .i2l => pI st fun x t => go d Y Q r b L (.inr (.inl x.toInt64) :: t) u
    | .i2b => pI st fun x t => go d Y Q r b L (.inl x.toInt8.toInt32 :: t) u
    | .i2s => pI st fun x t => go d Y Q r b L (.inl x.toInt16.toInt32 :: t) u
    | .ladd => pL st fun y t => pL t fun x t => go d Y Q r b L (.inr (.inl (x + y)) :: t) u
    | .lsub => pL st fun y t => pL t fun x t => go d Y Q r b L (.inr (.inl (x - y)) :: t) u
    | .lmul => pL st fun y t => pL t fun x t => go d Y Q r b L (.inr (.inl (x * y)) :: t) u
    | .ldiv => pL st fun y t => pL t fun x t => ¬ y = 0 ∧ go d Y Q r b L (.inr (.inl (x / y)) :: t) u
    | .lrem => pL st fun y t => pL t fun x t => ¬ y = 0 ∧ go d Y Q r b L (.inr (.inl (lrm x y)) :: t) u
    | .lshl => pI st fun y t => pL t fun x t => go d Y Q r b L (.inr (.inl (x <<< (y.toInt64 &&& 63))) :: t) u
    | .lcmp => pL st fun y t => pL t fun x t => go d Y Q r b L (.inl (lg_cmp x y) :: t) u
    | .ifCond .eq _ => pI st fun x t => (x = 0 → RunB (d + 1) Y a L t u Q) ∧ (¬ x = 0 → go d Y Q r b L t u)
    | .ifCond .ne _ => pI st fun x t => (¬ x = 0 → RunB (d + 1) Y a L t u Q) ∧ (x = 0 → go d Y Q r b L t u)
    | .ifCond .lt _ => pI st fun x t => (x < 0 → RunB (d + 1) Y a L t u Q) ∧ (¬ x < 0 → go d Y Q r b L t u)
    | .ifCond .ge _ => pI st fun x t => (0 ≤ x → RunB (d + 1) Y a L t u Q) ∧ (¬ 0 ≤ x → go d Y Q r b L t u)
    | .ifCond .gt _ => pI st fun x t => (0 < x → RunB (d + 1) Y a L t u Q) ∧ (¬ 0 < x → go d Y Q r b L t u)
    | .ifCond .le _ => pI st fun x t => (x ≤ 0 → RunB (d + 1) Y a L t u Q) ∧ (¬ x ≤ 0 → go d Y Q r b L t u)
    | .if_icmp .eq _ => pI st fun y t => pI t fun x t => (x = y → RunB (d + 1) Y a L t u Q) ∧ (¬ x = y → go d Y Q r b L t u)
    | .if_icmp .ne _ => pI st fun y t => pI t fun x t => (¬ x = y → RunB (d + 1) Y a L t u Q) ∧ (x = y → go d Y Q r b L t u)
    | .if_icmp .lt _ => pI st fun y t => pI t fun x t => (x < y → RunB (d + 1) Y a L t u Q) ∧ (¬ x < y → go d Y Q r b L t u)
    | .if_icmp .ge _ => pI st fun y t => pI t fun x t => (y ≤ x → RunB (d + 1) Y a L t u Q) ∧ (¬ y ≤ x → go d Y Q r b L t u)
    | .if_icmp .gt _ => pI st fun y t => pI t fun x t => (y < x → RunB (d + 1) Y a L t u Q) ∧ (¬ y < x → go d Y Q r b L t u)
    | .if_icmp .le _ => pI st fun y t => pI t fun x t => (x ≤ y → RunB (d + 1) Y a L t u Q) ∧ (¬ x ≤ y → go d Y Q r b L t u)
    | .goto _ => RunB (d + 1) Y a L st u Q
    | .iinc _ _ => oI (lk L a) fun x => go d Y Q r b (st1 L a (.inl (x + kI k (xs.headD 0)))) st u
    | .dup => pA st fun v t => go d Y Q r b L (v :: v :: t) u
    | .dup2 => pA st fun v t => pA t fun w t => go d Y Q r b L (v :: w :: v :: w :: t) u
    | .pop => pA st fun _ t => go d Y Q r b L t u
    | .getfield _ => pR st fun c i t => c = a ∧ i < NI a ∧ go d Y Q r b L (fm u a i k :: t) u
    | .putfield _ => pI st fun v t => pR t fun c i t => c = a ∧ i < NI a ∧ fk a k = none ∧ (isZ a k = true → v = nI 0 ∨ v = nI 1) ∧ go d Y Q r b L t (wr u a i k v)
    | .iaload => pI st fun x t => pR t fun c i t => ia c = true ∧ i < NI c ∧ vp_in x (ln c i) ∧ go d Y Q r b L (.inl (rd u c i x.toNatClampNeg) :: t) u
    | .iastore => pI st fun v t => pI t fun x t => pR t fun c i t => ia c = true ∧ i < NI c ∧ vp_in x (ln c i) ∧ go d Y Q r b L t (wr u c i x.toNatClampNeg v)
    | .laload => pI st fun x t => pR t fun c i t => c = 30 ∧ i < NI c ∧ vp_in x 2 ∧ go d Y Q r b L (.inr (.inl (rdL u x.toNatClampNeg)) :: t) u
    | .lastore => pL st fun v t => pI t fun x t => pR t fun c i t => c = 30 ∧ i < NI c ∧ vp_in x 2 ∧ go d Y Q r b L t (wrL u x.toNatClampNeg v)
    | .aaload => pI st fun x t => pR t fun c i t => i < NI c ∧ (match ra c with
        | some q => vp_in x q.2.2.1 ∧ go d Y Q r b L (.inr (.inr (q.1, q.2.1 + x.toNatClampNeg)) :: t) u
        | none => False)
    | .arraylength => pR st fun c i t => i < NI c ∧ (match alen c i with
        | some n => go d Y Q r b L (.inl (nI n) :: t) u
        | none => False)
    | .tableswitch _ _ _ _ => pI st fun x t => sw xs 0 x (fun b' => RunB (d + 1) Y b' L t u Q) a
    | .invokevirtual _ => pops a [] st fun as t => pR t fun c i t => c = k ∧ i < NI c ∧ cats t ≤ 8 ∧ OKm d g (.inr (.inr (c, i)) :: as) u fun v u' => go d Y Q r b L (pushR v t) u'
    | .invokestatic _ => if k = 3 then
          pI st fun n t => pI t fun dp t => pR t fun c' i' t => pI t fun sp t => pR t fun c i t => ia c = true ∧ i < NI c ∧ ia c' = true ∧ i' < NI c' ∧ cats t ≤ 8 ∧ ¬ sp < 0 ∧ ¬ dp < 0 ∧ ¬ n < 0 ∧ sp.toNatClampNeg + n.toNatClampNeg ≤ ln c i ∧ dp.toNatClampNeg + n.toNatClampNeg ≤ ln c' i' ∧ go d Y Q r b L t (cpy u c i c' i' sp.toNatClampNeg dp.toNatClampNeg n.toNatClampNeg)
        else if k = 4 then pI st fun y t => pI t fun x t => cats t ≤ 8 ∧ go d Y Q r b L (.inl (if x < y then y else x) :: t) u
        else if k = 5 then pI st fun y t => pI t fun x t => cats t ≤ 8 ∧ go d Y Q r b L (.inl (if y < x then y else x) :: t) u
        else if k = 6 then pL st fun y t => pL t fun x t => cats t ≤ 8 ∧ go d Y Q r b L (.inr (.inl (if y < x then x else y)) :: t) u
        else pops a [] st fun as t => cats t ≤ 8 ∧ OKm d g as u fun v u' => go d Y Q r b L (pushR v t) u'
    | .ireturn => pI st fun v t => t = [] ∧ (k = 1 → v = nI 0 ∨ v = nI 1) ∧ Q (some (.inl v)) u
    | .lreturn => pL st fun v t => t = [] ∧ Q (some (.inr (.inl v))) u
    | .return_ => st = [] ∧ Q none u
    | _ => False
end
section
/-- does an entry say what its instruction does, by the tables -/
def okE (own : String) (sg : Sg) (cd : Cd) (pc : Nat) (en : En) : Bool := match en with
  | (ins, len, a, k, xs, g) => match ins with
    | .iload i => len == 2 && i == a
    | .iload_n i => len == 1 && i.val == a
    | .lload i => len == 2 && i == a
    | .lload_n i => len == 1 && i.val == a
    | .aload i => len == 2 && i == a
    | .aload_n i => len == 1 && i.val == a
    | .istore i => len == 2 && i == a && decide (a < sg.2.2.1)
    | .istore_n i => len == 1 && i.val == a && decide (a < sg.2.2.1)
    | .lstore i => len == 2 && i == a && decide (a + 1 < sg.2.2.1)
    | .lstore_n i => len == 1 && i.val == a && decide (a + 1 < sg.2.2.1)
    | .astore i => len == 2 && i == a && decide (a < sg.2.2.1)
    | .astore_n i => len == 1 && i.val == a && decide (a < sg.2.2.1)
    | .iconst n => len == 1 && decide (Int32.ofInt n = kI a k)
    | .bipush n => len == 2 && decide ((Int8.ofInt n).toInt32 = kI a k)
    | .sipush n => len == 3 && decide ((Int16.ofInt n).toInt32 = kI a k)
    | .ldc i => len == 2 && inT (xs.headD 0) (.constant own i (kI a k))
    | .ldc_w i => len == 3 && inT (xs.headD 0) (.constant own i (kI a k))
    | .lconst n => len == 1 && decide (Int64.ofNat n.val = kL a k)
    | .ldc2_w i => len == 3 && inT (xs.headD 0) (.constantLong own i (kL a k))
    | .ifCond _ o => len == 3 && decide ((pc : Int) + o = (pcOf cd a : Int))
    | .if_icmp _ o => len == 3 && decide ((pc : Int) + o = (pcOf cd a : Int))
    | .goto o => len == 3 && decide ((pc : Int) + o = (pcOf cd a : Int))
    | .iinc i n => len == 3 && i == a && decide (a < sg.2.2.1) && decide (Int32.ofInt n = kI k (xs.headD 0))
    | .getfield i => len == 3 && decide (a < 9) && decide (k < NF a) && (match wCl[a]? with
        | some r => inT (xs.headD 0) (.fieldLink own i (r.2.1 k).1 (r.2.1 k).2.1 (r.2.1 k).2.2.1)
        | none => false)
    | .putfield i => len == 3 && decide (a < 9) && decide (k < NF a) && (match wCl[a]? with
        | some r => inT (xs.headD 0) (.fieldLink own i (r.2.1 k).1 (r.2.1 k).2.1 (r.2.1 k).2.2.1) && decide ((r.2.1 k).2.2.2 = false) && (decide (tyf r.2.1 k = .int) || (isZ a k && decide (tyf r.2.1 k = .boolean)))
        | none => false)
    | .tableswitch df lo hi os => decide ((pc : Int) + df = (pcOf cd a : Int)) && decide (lo = 0) && decide (hi + 1 = (xs.length : Int)) && decide (os.size = xs.length) && decide (xs.length < 1000) && (List.range xs.length).all (fun j => decide ((pc : Int) + os.getD j 0 = (pcOf cd (xs.getD j 0) : Int)))
    | .invokevirtual i => len == 3 && decide (k < 9) && (match wCl[k]? with
        | some r => decide (g.1.cls = r.1)
        | none => false) && inT (xs.getD 0 0) (.methodLink own i g.1) && inT (xs.getD 1 0) (.instanceMethod g.1) && inT (xs.getD 2 0) (.selects g.1.cls g.1 g.1) && inT (xs.getD 3 0) (.initialized g.1.cls) && inT (xs.getD 4 0) (.code g.1 g.2.1 g.2.2.1 g.2.2.2) && decide (g.2.2.1 ≤ 20) && decide (g.1.cls ≠ "java/lang/invoke/MethodHandle" ∧ g.1.cls ≠ "java/lang/invoke/VarHandle") && decide ((parseMethodDescriptor g.1.desc).map (fun d => d.parameters.length) = some a)
    | .invokestatic i => len == 3 && (if k = 3 then inT (xs.getD 0 0) (.methodLink own i arraycopyName) && inT (xs.getD 1 0) (.native arraycopyName) && inT (xs.getD 2 0) (.static arraycopyName) && inT (xs.getD 3 0) (.initialized "java/lang/System")
        else if k = 4 then inT (xs.getD 0 0) (.methodLink own i Lib.Math.max.name) && inT (xs.getD 1 0) (.static Lib.Math.max.name) && inT (xs.getD 3 0) (.initialized "java/lang/Math") && inT (xs.getD 4 0) (.code Lib.Math.max.name Lib.Math.max.code 2 (some .int))
        else if k = 5 then inT (xs.getD 0 0) (.methodLink own i Lib.Math.min.name) && inT (xs.getD 1 0) (.static Lib.Math.min.name) && inT (xs.getD 3 0) (.initialized "java/lang/Math") && inT (xs.getD 4 0) (.code Lib.Math.min.name Lib.Math.min.code 2 (some .int))
        else if k = 6 then inT (xs.getD 0 0) (.methodLink own i Lib.MathLoose.max_long.x) && inT (xs.getD 1 0) (.static Lib.MathLoose.max_long.x) && inT (xs.getD 3 0) (.initialized "java/lang/Math") && inT (xs.getD 4 0) (.code Lib.MathLoose.max_long.x Lib.MathLoose.max_long.code 4 (some .long))
        else (if k = 2 then inN (xs.getD 0 0) (.methodLinkNest own i g.1 RW) else inT (xs.getD 0 0) (.methodLink own i g.1)) && inT (xs.getD 1 0) (.static g.1) && inT (xs.getD 3 0) (.initialized g.1.cls) && inT (xs.getD 4 0) (.code g.1 g.2.1 g.2.2.1 g.2.2.2) && decide (g.2.2.1 ≤ 20) && decide (g.1.cls ≠ "java/lang/invoke/MethodHandle" ∧ g.1.cls ≠ "java/lang/invoke/VarHandle") && decide ((parseMethodDescriptor g.1.desc).map (fun d => d.parameters.length) = some a))
    | .ireturn => len == 1 && (decide (sg.2.2.2 = some .int) || (k == 1 && decide (sg.2.2.2 = some .boolean)))
    | .lreturn => len == 1 && decide (sg.2.2.2 = some .long)
    | .return_ => len == 1 && decide (sg.2.2.2 = none)
    | _ => len == 1
def okRest (own : String) (sg : Sg) (cd : Cd) : Nat → List En → Nat → Bool
  | pc, [], nxt => pc == nxt
  | pc, en :: r, nxt => decide (decode sg.2.1 pc = .ok (en.1, en.2.1)) && okE own sg cd pc en && okRest own sg cd (pc + en.2.1) r nxt
def okM (Y : Mth) : Bool := decide (plainName Y.1.1.cls = true) && decide (Y.1.1.cls = Y.2.1) && decide (pcOf Y.2.2 0 = 0) && (List.range (Y.2.2.length - 1)).all (fun b => okRest Y.2.1 Y.1 Y.2.2 (pcOf Y.2.2 b) (esOf Y.2.2 b) (pcOf Y.2.2 (b + 1)))
theorem nfw : nativeFrameWords "java/lang/System" "arraycopy" 5 ≤ 20 := by decide +kernel
theorem wCl_mem {a : Nat} {r : vw_C} (h : wCl[a]? = some r) : r ∈ wCl := List.mem_of_getElem? h
theorem wCl_nf {a : Nat} {r : vw_C} (h : wCl[a]? = some r) (ha : a < 9) : r.2.2 = NF a := by
  obtain ⟨C, T, h1⟩ := wCl_NF a ha
  rw [h] at h1
  cases h1
  rfl
theorem fv_vv (X : WX) (u : Mem) (a i k : Nat) : fv X (u.1 a i) a i k = vv X (fm u a i k) := by
  unfold fv fm
  cases fk a k with
  | none => rfl
  | some q => obtain ⟨c, _ | z⟩ := q <;> rfl
theorem kA_at (X : WX) : (tyx X)[0]? = some (X.kA 0, .int) := rfl
theorem ra_ty : ∀ c, c < 49 → ∀ q, ra c = some q → ∃ C, ∀ X : WX, (tyx X)[q.2.2.2]? = some (X.kA q.2.2.2, .object C) := by
  intro c hc q hq
  unfold ra at hq
  split at hq <;> first | (cases hq; exact ⟨_, fun X => rfl⟩) | cases hq
section GOW
variable {d : Nat} {X : WX} {Y : Mth} {Q : Option MV → Mem → Prop} {p : Program} {l : Launch} {e : Env} {R : Room} {s : State} {m : MethodId} {args : Array Value} {below : List Frame} {meth : Method} {c : Code} {cells slots : Nat} {G : State → Prop}
/-- behind a call -/
theorem call_W {H : Heap} {locs : List Loc} {pc : Nat} {ls : Array Slot} {st : List Value} {t : List MV} {Qr : Option MV → Mem → Prop} {aa : Array Value}
    (hr : va_Run p l e R s m args below meth c H locs cells slots 0 0 (F0 m pc ls st) (t.map (vv X)) (okQc X Qr aa) (AX X)) (hS : va_S (AX X) s.heap H locs)
    (kk : ∀ (r : Option MV) (u : Mem) (H1 : Heap) (locs1 : List Loc), Qr r u → va_P X.D wCl (wsx X u) H1 → va_S (AX X) s.heap H1 locs1 → W p l e R s m args below meth c H1 locs1 cells slots G (F0 m (pc + 3) ls ((pushR r t).map (vv X)))) : W p l e R s m args below meth c H locs cells slots G (F0 m pc ls st) := by
  intro T hT XX
  obtain ⟨v, st₀, t1, T', L, h0, X', hL, e1, e2, ⟨⟨r, u, hv, hp, hb⟩, hz, hk⟩, st2⟩ := hr T hT XX
  cases hv
  rw [h0] at hz hk
  obtain ⟨t2, a1, b1⟩ := kk r u T'.heap (locs ++ L) hp (by rw [e1]; exact hb)
    ⟨Nat.le_trans hS.1 (by rw [e1]; exact hz), fun q h1 h2 => by rw [e1, hk q (Nat.lt_of_lt_of_le h1 hS.1) h2]; exact hS.2.1 q h1 h2, fun q hq => by
      rcases List.mem_append.mp hq with h | h
      · exact hS.2.2 q h
      · exact hL q h⟩ T' rfl X'
  refine ⟨t2, st2 t2 ?_, b1⟩
  have : (Option.map (vv X) r).toList ++ List.map (vv X) t = (pushR r t).map (vv X) := by cases r <;> rfl
  rw [this]
  exact a1
set_option maxHeartbeats 4000000 in
set_option maxRecDepth 100000 in
theorem go_W (C0 : Ctx (d + 1) X Y Q p l e R s m args below meth c cells slots G) :
    ∀ (es : List En) (pc b : Nat) (L : List (Option MV)) (st : List MV) (u : Mem) (H : Heap) (locs : List Loc) (ls : Array Slot), okRest Y.2.1 Y.1 Y.2.2 pc es (pcOf Y.2.2 (b + 1)) = true → go d Y Q es b L st u → va_P X.D wCl (wsx X u) H → va_S (AX X) s.heap H locs → LV X ls Y.1.2.2.1 L → W p l e R s m args below meth c H locs cells slots G (F0 m pc ls (st.map (vv X))) := by
  obtain ⟨hx, hb, hml, hown, hts, hK, ⟨hI, hNW⟩, ⟨hR1, hR2, hR3, hR4⟩, hret⟩ := id C0
  have hj : ∀ {b : Nat} {L : List (Option MV)} {st : List MV} {u : Mem} {H : Heap} {locs : List Loc} {ls : Array Slot}, RunB (d + 1) Y b L st u Q → va_P X.D wCl (wsx X u) H → va_S (AX X) s.heap H locs → LV X ls Y.1.2.2.1 L → W p l e R s m args below meth c H locs cells slots G (F0 m (pcOf Y.2.2 b) ls (st.map (vv X))) := fun h hP hS hl => h X p l e R s m args below meth c cells slots G _ _ _ C0 hP hS hl
  intro es
  induction es with
  | nil =>
    intro pc b L st u H locs ls hok hgo hP hS hl
    have hpc : pc = pcOf Y.2.2 (b + 1) := by simpa [okRest] using hok
    subst hpc
    exact hj hgo hP hS hl
  | cons en r ih =>
    intro pc b L st u H locs ls hok hgo hP hS hl
    obtain ⟨ins, len, a, k, xs, g⟩ := en
    simp only [okRest, Bool.and_eq_true, decide_eq_true_eq] at hok
    obtain ⟨⟨hdec, hE⟩, hrest⟩ := hok
    cases ins
    case iload i =>
      simp only [okE, Bool.and_eq_true, beq_iff_eq] at hE
      obtain ⟨rfl, rfl⟩ := hE
      obtain ⟨x, hx1, h⟩ := oI_inv hgo
      exact lv_iload hx hb hdec (hl.at hx1) (ih _ b _ _ _ _ _ _ hrest h hP hS hl)
    case iload_n i =>
      simp only [okE, Bool.and_eq_true, beq_iff_eq] at hE
      obtain ⟨rfl, hi⟩ := hE
      obtain ⟨x, hx1, h⟩ := oI_inv hgo
      exact lv_iload_n hx hb hdec hi (hl.at hx1) (ih _ b _ _ _ _ _ _ hrest h hP hS hl)
    case lload i =>
      simp only [okE, Bool.and_eq_true, beq_iff_eq] at hE
      obtain ⟨rfl, rfl⟩ := hE
      obtain ⟨x, hx1, h⟩ := oL_inv hgo
      exact lv_lload hx hb hdec (hl.at hx1) (ih _ b _ _ _ _ _ _ hrest h hP hS hl)
    case lload_n i =>
      simp only [okE, Bool.and_eq_true, beq_iff_eq] at hE
      obtain ⟨rfl, hi⟩ := hE
      obtain ⟨x, hx1, h⟩ := oL_inv hgo
      exact lv_lload_n hx hb hdec hi (hl.at hx1) (ih _ b _ _ _ _ _ _ hrest h hP hS hl)
    case aload i =>
      simp only [okE, Bool.and_eq_true, beq_iff_eq] at hE
      obtain ⟨rfl, rfl⟩ := hE
      obtain ⟨c1, i1, hx1, h⟩ := oR_inv hgo
      exact lv_aload hx hb hdec (hl.at hx1) (ih _ b _ _ _ _ _ _ hrest h hP hS hl)
    case aload_n i =>
      simp only [okE, Bool.and_eq_true, beq_iff_eq] at hE
      obtain ⟨rfl, hi⟩ := hE
      obtain ⟨c1, i1, hx1, h⟩ := oR_inv hgo
      exact lv_aload_n hx hb hdec hi (hl.at hx1) (ih _ b _ _ _ _ _ _ hrest h hP hS hl)
    case istore i =>
      simp only [okE, Bool.and_eq_true, beq_iff_eq, decide_eq_true_eq] at hE
      obtain ⟨⟨rfl, rfl⟩, hlt⟩ := hE
      obtain ⟨x, t, rfl, h⟩ := pI_inv hgo
      obtain ⟨lv, hl1, hl2⟩ := hl
      exact lv_istore hx hb hdec hl1 hlt rfl fun ls' hl' => ih _ b _ _ _ _ _ _ hrest h hP hS (LV.st1 (v := .inl x) hl2 hl')
    case istore_n i =>
      simp only [okE, Bool.and_eq_true, beq_iff_eq, decide_eq_true_eq] at hE
      obtain ⟨⟨rfl, hi⟩, hlt⟩ := hE
      obtain ⟨x, t, rfl, h⟩ := pI_inv hgo
      obtain ⟨lv, hl1, hl2⟩ := hl
      exact lv_istore_n hx hb hdec hi hl1 hlt rfl fun ls' hl' => ih _ b _ _ _ _ _ _ hrest h hP hS (LV.st1 (v := .inl x) hl2 hl')
    case lstore i =>
      simp only [okE, Bool.and_eq_true, beq_iff_eq, decide_eq_true_eq] at hE
      obtain ⟨⟨rfl, rfl⟩, hlt⟩ := hE
      obtain ⟨x, t, rfl, h⟩ := pL_inv hgo
      obtain ⟨lv, hl1, hl2⟩ := hl
      exact lv_lstore hx hb hdec hl1 hlt rfl fun ls' hl' => ih _ b _ _ _ _ _ _ hrest h hP hS (LV.st2 (v := .inr (.inl x)) hl2 hl')
    case lstore_n i =>
      simp only [okE, Bool.and_eq_true, beq_iff_eq, decide_eq_true_eq] at hE
      obtain ⟨⟨rfl, hi⟩, hlt⟩ := hE
      obtain ⟨x, t, rfl, h⟩ := pL_inv hgo
      obtain ⟨lv, hl1, hl2⟩ := hl
      exact lv_lstore_n hx hb hdec hi hl1 hlt rfl fun ls' hl' => ih _ b _ _ _ _ _ _ hrest h hP hS (LV.st2 (v := .inr (.inl x)) hl2 hl')
    case astore i =>
      simp only [okE, Bool.and_eq_true, beq_iff_eq, decide_eq_true_eq] at hE
      obtain ⟨⟨rfl, rfl⟩, hlt⟩ := hE
      obtain ⟨c1, i1, t, rfl, h⟩ := pR_inv hgo
      obtain ⟨lv, hl1, hl2⟩ := hl
      exact lv_astore hx hb hdec hl1 hlt rfl fun ls' hl' => ih _ b _ _ _ _ _ _ hrest h hP hS (LV.st1 (v := .inr (.inr (c1, i1))) hl2 hl')
    case astore_n i =>
      simp only [okE, Bool.and_eq_true, beq_iff_eq, decide_eq_true_eq] at hE
      obtain ⟨⟨rfl, hi⟩, hlt⟩ := hE
      obtain ⟨c1, i1, t, rfl, h⟩ := pR_inv hgo
      obtain ⟨lv, hl1, hl2⟩ := hl
      exact lv_astore_n hx hb hdec hi hl1 hlt rfl fun ls' hl' => ih _ b _ _ _ _ _ _ hrest h hP hS (LV.st1 (v := .inr (.inr (c1, i1))) hl2 hl')
    case iconst n =>
      simp only [okE, Bool.and_eq_true, beq_iff_eq, decide_eq_true_eq] at hE
      obtain ⟨rfl, hv⟩ := hE
      exact lv_iconst hx hb hdec hv (ih _ b _ _ _ _ _ _ hrest hgo hP hS hl)
    case bipush n =>
      simp only [okE, Bool.and_eq_true, beq_iff_eq, decide_eq_true_eq] at hE
      obtain ⟨rfl, hv⟩ := hE
      exact lv_bipush hx hb hdec hv (ih _ b _ _ _ _ _ _ hrest hgo hP hS hl)
    case sipush n =>
      simp only [okE, Bool.and_eq_true, beq_iff_eq, decide_eq_true_eq] at hE
      obtain ⟨rfl, hv⟩ := hE
      exact lv_sipush hx hb hdec hv (ih _ b _ _ _ _ _ _ hrest hgo hP hS hl)
    case ldc n =>
      simp only [okE, Bool.and_eq_true, beq_iff_eq] at hE
      obtain ⟨rfl, hv⟩ := hE
      exact lv_ldc hx hb hown (hts _ (inT_mem hv)) hdec (ih _ b _ _ _ _ _ _ hrest hgo hP hS hl)
    case ldc_w n =>
      simp only [okE, Bool.and_eq_true, beq_iff_eq] at hE
      obtain ⟨rfl, hv⟩ := hE
      exact lv_ldcw hx hb hown (hts _ (inT_mem hv)) hdec (ih _ b _ _ _ _ _ _ hrest hgo hP hS hl)
    case lconst n =>
      simp only [okE, Bool.and_eq_true, beq_iff_eq, decide_eq_true_eq] at hE
      obtain ⟨rfl, hv⟩ := hE
      exact lv_lconst hx hb hdec hv (ih _ b _ _ _ _ _ _ hrest hgo hP hS hl)
    case ldc2_w n =>
      simp only [okE, Bool.and_eq_true, beq_iff_eq] at hE
      obtain ⟨rfl, hv⟩ := hE
      exact lv_ldc2 hx hb hown (hts _ (inT_mem hv)) hdec (ih _ b _ _ _ _ _ _ hrest hgo hP hS hl)
    case iadd =>
      have hlen : len = 1 := by simpa [okE] using hE
      subst hlen
      obtain ⟨y, t, rfl, h⟩ := pI_inv hgo
      obtain ⟨x, t, rfl, h⟩ := pI_inv h
      exact lv_iadd hx hb hdec (ih _ b _ _ _ _ _ _ hrest h hP hS hl)
    case isub =>
      have hlen : len = 1 := by simpa [okE] using hE
      subst hlen
      obtain ⟨y, t, rfl, h⟩ := pI_inv hgo
      obtain ⟨x, t, rfl, h⟩ := pI_inv h
      exact lv_isub hx hb hdec (ih _ b _ _ _ _ _ _ hrest h hP hS hl)
    case imul =>
      have hlen : len = 1 := by simpa [okE] using hE
      subst hlen
      obtain ⟨y, t, rfl, h⟩ := pI_inv hgo
      obtain ⟨x, t, rfl, h⟩ := pI_inv h
      exact lv_imul hx hb hdec (ih _ b _ _ _ _ _ _ hrest h hP hS hl)
    case idiv =>
      have hlen : len = 1 := by simpa [okE] using hE
      subst hlen
      obtain ⟨y, t, rfl, h⟩ := pI_inv hgo
      obtain ⟨x, t, rfl, h⟩ := pI_inv h
      exact lv_idiv hx hb hdec h.1 (ih _ b _ _ _ _ _ _ hrest h.2 hP hS hl)
    case irem =>
      have hlen : len = 1 := by simpa [okE] using hE
      subst hlen
      obtain ⟨y, t, rfl, h⟩ := pI_inv hgo
      obtain ⟨x, t, rfl, h⟩ := pI_inv h
      exact lv_irem hx hb hdec h.1 (ih _ b _ _ _ _ _ _ hrest h.2 hP hS hl)
    case iand =>
      have hlen : len = 1 := by simpa [okE] using hE
      subst hlen
      obtain ⟨y, t, rfl, h⟩ := pI_inv hgo
      obtain ⟨x, t, rfl, h⟩ := pI_inv h
      exact lv_iand hx hb hdec (ih _ b _ _ _ _ _ _ hrest h hP hS hl)
    case ior =>
      have hlen : len = 1 := by simpa [okE] using hE
      subst hlen
      obtain ⟨y, t, rfl, h⟩ := pI_inv hgo
      obtain ⟨x, t, rfl, h⟩ := pI_inv h
      exact lv_ior hx hb hdec (ih _ b _ _ _ _ _ _ hrest h hP hS hl)
    case ishl =>
      have hlen : len = 1 := by simpa [okE] using hE
      subst hlen
      obtain ⟨y, t, rfl, h⟩ := pI_inv hgo
      obtain ⟨x, t, rfl, h⟩ := pI_inv h
      exact lv_ishl hx hb hdec (ih _ b _ _ _ _ _ _ hrest h hP hS hl)
    case ishr =>
      have hlen : len = 1 := by simpa [okE] using hE
      subst hlen
      obtain ⟨y, t, rfl, h⟩ := pI_inv hgo
      obtain ⟨x, t, rfl, h⟩ := pI_inv h
      exact lv_ishr hx hb hdec (ih _ b _ _ _ _ _ _ hrest h hP hS hl)
    case iushr =>
      have hlen : len = 1 := by simpa [okE] using hE
      subst hlen
      obtain ⟨y, t, rfl, h⟩ := pI_inv hgo
      obtain ⟨x, t, rfl, h⟩ := pI_inv h
      exact lv_iushr hx hb hdec rfl (ih _ b _ _ _ _ _ _ hrest h hP hS hl)
    case i2l =>
      have hlen : len = 1 := by simpa [okE] using hE
      subst hlen
      obtain ⟨x, t, rfl, h⟩ := pI_inv hgo
      exact lv_i2l hx hb hdec rfl (ih _ b _ _ _ _ _ _ hrest h hP hS hl)
    case i2b =>
      have hlen : len = 1 := by simpa [okE] using hE
      subst hlen
      obtain ⟨x, t, rfl, h⟩ := pI_inv hgo
      exact lv_i2b hx hb hdec rfl (ih _ b _ _ _ _ _ _ hrest h hP hS hl)
    case i2s =>
      have hlen : len = 1 := by simpa [okE] using hE
      subst hlen
      obtain ⟨x, t, rfl, h⟩ := pI_inv hgo
      exact lv_i2s hx hb hdec rfl (ih _ b _ _ _ _ _ _ hrest h hP hS hl)
    case ladd =>
      have hlen : len = 1 := by simpa [okE] using hE
      subst hlen
      obtain ⟨y, t, rfl, h⟩ := pL_inv hgo
      obtain ⟨x, t, rfl, h⟩ := pL_inv h
      exact lv_ladd hx hb hdec (ih _ b _ _ _ _ _ _ hrest h hP hS hl)
    case lsub =>
      have hlen : len = 1 := by simpa [okE] using hE
      subst hlen
      obtain ⟨y, t, rfl, h⟩ := pL_inv hgo
      obtain ⟨x, t, rfl, h⟩ := pL_inv h
      exact lv_lsub hx hb hdec (ih _ b _ _ _ _ _ _ hrest h hP hS hl)
    case lmul =>
      have hlen : len = 1 := by simpa [okE] using hE
      subst hlen
      obtain ⟨y, t, rfl, h⟩ := pL_inv hgo
      obtain ⟨x, t, rfl, h⟩ := pL_inv h
      exact lv_lmul hx hb hdec (ih _ b _ _ _ _ _ _ hrest h hP hS hl)
    case ldiv =>
      have hlen : len = 1 := by simpa [okE] using hE
      subst hlen
      obtain ⟨y, t, rfl, h⟩ := pL_inv hgo
      obtain ⟨x, t, rfl, h⟩ := pL_inv h
      exact lv_ldiv hx hb hdec h.1 (ih _ b _ _ _ _ _ _ hrest h.2 hP hS hl)
    case lrem =>
      have hlen : len = 1 := by simpa [okE] using hE
      subst hlen
      obtain ⟨y, t, rfl, h⟩ := pL_inv hgo
      obtain ⟨x, t, rfl, h⟩ := pL_inv h
      exact lv_lrem hx hb hdec h.1 (ih _ b _ _ _ _ _ _ hrest h.2 hP hS hl)
    case lshl =>
      have hlen : len = 1 := by simpa [okE] using hE
      subst hlen
      obtain ⟨y, t, rfl, h⟩ := pI_inv hgo
      obtain ⟨x, t, rfl, h⟩ := pL_inv h
      exact lv_lshl hx hb hdec rfl (ih _ b _ _ _ _ _ _ hrest h hP hS hl)
    case lcmp =>
      have hlen : len = 1 := by simpa [okE] using hE
      subst hlen
      obtain ⟨y, t, rfl, h⟩ := pL_inv hgo
      obtain ⟨x, t, rfl, h⟩ := pL_inv h
      exact W.lcmp hx hb hdec (ih _ b _ _ _ _ _ _ hrest h hP hS hl)
    case ifCond cnd o =>
      simp only [okE, Bool.and_eq_true, beq_iff_eq, decide_eq_true_eq] at hE
      obtain ⟨rfl, ht⟩ := hE
      cases cnd
      case eq =>
        obtain ⟨x, t, rfl, h⟩ := pI_inv hgo
        exact lv_if_eq hx hb hdec ht (fun q => hj (h.1 q) hP hS hl) (fun q => ih _ b _ _ _ _ _ _ hrest (h.2 q) hP hS hl)
      case ne =>
        obtain ⟨x, t, rfl, h⟩ := pI_inv hgo
        exact lv_if_ne hx hb hdec ht (fun q => hj (h.1 q) hP hS hl) (fun q => ih _ b _ _ _ _ _ _ hrest (h.2 q) hP hS hl)
      case lt =>
        obtain ⟨x, t, rfl, h⟩ := pI_inv hgo
        exact lv_if_lt hx hb hdec ht (fun q => hj (h.1 q) hP hS hl) (fun q => ih _ b _ _ _ _ _ _ hrest (h.2 q) hP hS hl)
      case ge =>
        obtain ⟨x, t, rfl, h⟩ := pI_inv hgo
        exact lv_if_ge hx hb hdec ht (fun q => hj (h.1 q) hP hS hl) (fun q => ih _ b _ _ _ _ _ _ hrest (h.2 q) hP hS hl)
      case gt =>
        obtain ⟨x, t, rfl, h⟩ := pI_inv hgo
        exact lv_if_gt hx hb hdec ht (fun q => hj (h.1 q) hP hS hl) (fun q => ih _ b _ _ _ _ _ _ hrest (h.2 q) hP hS hl)
      case le =>
        obtain ⟨x, t, rfl, h⟩ := pI_inv hgo
        exact lv_if_le hx hb hdec ht (fun q => hj (h.1 q) hP hS hl) (fun q => ih _ b _ _ _ _ _ _ hrest (h.2 q) hP hS hl)
    case if_icmp cnd o =>
      simp only [okE, Bool.and_eq_true, beq_iff_eq, decide_eq_true_eq] at hE
      obtain ⟨rfl, ht⟩ := hE
      cases cnd
      case eq =>
        obtain ⟨y, t, rfl, h⟩ := pI_inv hgo
        obtain ⟨x, t, rfl, h⟩ := pI_inv h
        exact lv_icmp_eq hx hb hdec ht (fun q => hj (h.1 q) hP hS hl) (fun q => ih _ b _ _ _ _ _ _ hrest (h.2 q) hP hS hl)
      case ne =>
        obtain ⟨y, t, rfl, h⟩ := pI_inv hgo
        obtain ⟨x, t, rfl, h⟩ := pI_inv h
        exact lv_icmp_ne hx hb hdec ht (fun q => hj (h.1 q) hP hS hl) (fun q => ih _ b _ _ _ _ _ _ hrest (h.2 q) hP hS hl)
      case lt =>
        obtain ⟨y, t, rfl, h⟩ := pI_inv hgo
        obtain ⟨x, t, rfl, h⟩ := pI_inv h
        exact lv_icmp_lt hx hb hdec ht (fun q => hj (h.1 q) hP hS hl) (fun q => ih _ b _ _ _ _ _ _ hrest (h.2 q) hP hS hl)
      case ge =>
        obtain ⟨y, t, rfl, h⟩ := pI_inv hgo
        obtain ⟨x, t, rfl, h⟩ := pI_inv h
        exact lv_icmp_ge hx hb hdec ht (fun q => hj (h.1 q) hP hS hl) (fun q => ih _ b _ _ _ _ _ _ hrest (h.2 q) hP hS hl)
      case gt =>
        obtain ⟨y, t, rfl, h⟩ := pI_inv hgo
        obtain ⟨x, t, rfl, h⟩ := pI_inv h
        exact lv_icmp_gt hx hb hdec ht (fun q => hj (h.1 q) hP hS hl) (fun q => ih _ b _ _ _ _ _ _ hrest (h.2 q) hP hS hl)
      case le =>
        obtain ⟨y, t, rfl, h⟩ := pI_inv hgo
        obtain ⟨x, t, rfl, h⟩ := pI_inv h
        exact lv_icmp_le hx hb hdec ht (fun q => hj (h.1 q) hP hS hl) (fun q => ih _ b _ _ _ _ _ _ hrest (h.2 q) hP hS hl)
    case goto o =>
      simp only [okE, Bool.and_eq_true, beq_iff_eq, decide_eq_true_eq] at hE
      obtain ⟨rfl, ht⟩ := hE
      exact lv_goto hx hb hdec ht (hj hgo hP hS hl)
    case iinc i n =>
      simp only [okE, Bool.and_eq_true, beq_iff_eq, decide_eq_true_eq] at hE
      obtain ⟨⟨⟨rfl, rfl⟩, hlt⟩, hv⟩ := hE
      obtain ⟨x, hx1, h⟩ := oI_inv hgo
      obtain ⟨lv, hl1, hl2⟩ := hl
      obtain ⟨k1, hk1⟩ := List.getElem?_of_mem (hl2 _ _ hx1)
      exact lv_iinc hx hb hdec hl1 hk1 (by rw [hv]) hlt rfl fun ls' hl' => ih _ b _ _ _ _ _ _ hrest h hP hS (LV.st1 (v := .inl _) hl2 hl')
    case dup =>
      have hlen : len = 1 := by simpa [okE] using hE
      subst hlen
      have hgo1 : pA st (fun v t => go d Y Q r b L (v :: v :: t) u) := hgo
      obtain ⟨v, t, rfl, h0, h⟩ := pA_inv hgo1
      exact lv_dup hx hb hdec (by rw [vv_cat, h0]; rfl) (ih _ b _ _ _ _ _ _ hrest h hP hS hl)
    case dup2 =>
      have hlen : len = 1 := by simpa [okE] using hE
      subst hlen
      have hgo1 : pA st (fun v t => pA t fun w t => go d Y Q r b L (v :: w :: v :: w :: t) u) := hgo
      obtain ⟨v, t, rfl, h0, h⟩ := pA_inv hgo1
      obtain ⟨w, t, rfl, h1, h⟩ := pA_inv h
      exact lv_dup2_11 hx hb hdec (by rw [vv_cat, h0]; rfl) (by rw [vv_cat, h1]; rfl) (ih _ b _ _ _ _ _ _ hrest h hP hS hl)
    case pop =>
      have hlen : len = 1 := by simpa [okE] using hE
      subst hlen
      have hgo1 : pA st (fun _ t => go d Y Q r b L t u) := hgo
      obtain ⟨v, t, rfl, h0, h⟩ := pA_inv hgo1
      exact lv_pop hx hb hdec (by rw [vv_cat, h0]; rfl) (ih _ b _ _ _ _ _ _ hrest h hP hS hl)
    case getfield i =>
      simp only [okE, Bool.and_eq_true, beq_iff_eq, decide_eq_true_eq] at hE
      obtain ⟨⟨⟨rfl, ha9⟩, hkF⟩, hln⟩ := hE
      obtain ⟨c1, i1, t, rfl, rfl, hi1, h⟩ := pR_inv hgo
      cases hr : wCl[c1]? with
      | none => rw [hr] at hln; cases hln
      | some q =>
        rw [hr] at hln
        obtain ⟨C, T, N⟩ := q
        have hN : N = NF c1 := wCl_nf hr ha9
        subst hN
        refine va_get (D := X.D) (ci := c1) (C := C) (T := T) (N := NF c1) hx hb hts (wCl_in _ (wCl_mem hr)) hown hK hP (off c1 + i1) (by rw [wsx_at X u hi1, cellF_obj X _ _ i1 ha9]) hr k hkF (hts _ (inT_mem hln)) (fun _ h9 => h9) (v := vv X (fm u c1 i1 k)) (by rw [List.getElem?_map, List.getElem?_range hkF]; simp [fv_vv]) hdec ?_
        exact ih _ b _ (fm u c1 i1 k :: t) _ _ _ _ hrest h hP hS hl
    case putfield i =>
      simp only [okE, Bool.and_eq_true, beq_iff_eq, decide_eq_true_eq] at hE
      obtain ⟨⟨⟨rfl, ha9⟩, hkF⟩, hln⟩ := hE
      obtain ⟨v, t, rfl, h⟩ := pI_inv hgo
      obtain ⟨c1, i1, t, rfl, rfl, hi1, hfk, hz, h⟩ := pR_inv h
      cases hr : wCl[c1]? with
      | none => rw [hr] at hln; cases hln
      | some q =>
        rw [hr] at hln
        obtain ⟨C, T, N⟩ := q
        have hN : N = NF c1 := wCl_nf hr ha9
        subst hN
        simp only [Bool.and_eq_true, Bool.or_eq_true, decide_eq_true_eq] at hln
        obtain ⟨⟨hlk, hfin⟩, hty⟩ := hln
        have hnar : narrow (tyf T k) (.int v) = .int v := by
          rcases hty with hty | ⟨hz1, hty⟩
          · rw [hty]; rfl
          · rw [hty]
            rcases hz hz1 with rfl | rfl <;> decide
        have hfit : fits (tyf T k) (.int v) = true := by
          rcases hty with hty | ⟨hz1, hty⟩
          · rw [hty]; rfl
          · rw [hty]
            rcases hz hz1 with rfl | rfl <;> decide
        refine va_put (D := X.D) (ci := c1) (v := .int v) (ty := tyf T k) (C := C) (T := T) (N := NF c1) hx hb hts (wCl_in _ (wCl_mem hr)) (tyf T) (wCl_ty _ (wCl_mem hr)) (wCl_nm _ (wCl_mem hr)) hown hK hP (wsx_D hI u) hS (off c1 + i1) (by rw [wsx_at X u hi1, cellF_obj X _ _ i1 ha9]) hr k hkF (hts _ (inT_mem hlk)) (fun _ h9 => h9) hfin (wCl_ty _ (wCl_mem hr) k hkF) hnar hfit (by simpa using hkF) hdec (fun H1 locs1 hP1 _ hS1 => ?_)
        rw [fk_set X _ c1 i1 k v hfk, wsx_wr (v := v) (j := k) hi1 _ (by rw [cellF_obj X _ _ i1 ha9])] at hP1
        exact ih _ b _ _ _ _ _ _ hrest h hP1 hS1 hl
    case iaload =>
      have hlen : len = 1 := by simpa [okE] using hE
      subst hlen
      obtain ⟨x, t, rfl, h⟩ := pI_inv hgo
      obtain ⟨c1, i1, t, rfl, hia, hi1, hv, h⟩ := pR_inv h
      have hc1 : (wsx X u)[off c1 + i1]? = some (X.ad c1 i1, .inl (X.kA 0, ln c1 i1, .inl (u.1 c1 i1))) := by rw [wsx_at X u hi1, cellF_int X _ _ i1 hia]
      exact va_iald (D := X.D) hx hb hK hP (off c1 + i1) 0 hc1 rfl hv hdec (ih _ b _ (.inl (rd u c1 i1 x.toNatClampNeg) :: t) _ _ _ _ hrest h hP hS hl)
    case iastore =>
      have hlen : len = 1 := by simpa [okE] using hE
      subst hlen
      obtain ⟨v, t, rfl, h⟩ := pI_inv hgo
      obtain ⟨x, t, rfl, h⟩ := pI_inv h
      obtain ⟨c1, i1, t, rfl, hia, hi1, hv, h⟩ := pR_inv h
      refine va_iast (D := X.D) hx hb hK hP (wsx_D hI u) hS (off c1 + i1) 0 (by rw [wsx_at X u hi1, cellF_int X _ _ i1 hia]) rfl hv hdec (fun H1 locs1 hP1 _ hS1 => ?_)
      rw [wsx_wr (v := v) (j := x.toNatClampNeg) hi1 _ (by rw [cellF_int X _ _ i1 hia])] at hP1
      exact ih _ b _ _ _ _ _ _ hrest h hP1 hS1 hl
    case laload =>
      have hlen : len = 1 := by simpa [okE] using hE
      subst hlen
      obtain ⟨x, t, rfl, h⟩ := pI_inv hgo
      obtain ⟨c1, i1, t, rfl, rfl, hi1, hv, h⟩ := pR_inv h
      have hc1 : (wsx X u)[off 30 + i1]? = some (X.ad 30 i1, .inl (X.kA 1, 2, .inr (.inl u.2))) := by rw [wsx_at X u hi1, cellF_ch]
      exact va_lald (D := X.D) hx hb hK hP (off 30 + i1) 1 hc1 rfl hv hdec (ih _ b _ (.inr (.inl (rdL u x.toNatClampNeg)) :: t) _ _ _ _ hrest h hP hS hl)
    case lastore =>
      have hlen : len = 1 := by simpa [okE] using hE
      subst hlen
      obtain ⟨v, t, rfl, h⟩ := pL_inv hgo
      obtain ⟨x, t, rfl, h⟩ := pI_inv h
      obtain ⟨c1, i1, t, rfl, rfl, hi1, hv, h⟩ := pR_inv h
      refine va_last (D := X.D) hx hb hK hP (wsx_D hI u) hS (off 30 + i1) 1 (by rw [wsx_at X u hi1, cellF_ch]) rfl hv hdec (fun H1 locs1 hP1 _ hS1 => ?_)
      rw [wsx_set (u := u) hi1 (wrL u x.toNatClampNeg v) _ (by rw [cellF_ch]; rfl) (fun a b hb hne => ?_)] at hP1
      · exact ih _ b _ _ _ _ _ _ hrest h hP1 hS1 hl
      · have ha : a ≠ 30 := by
          intro ha
          subst ha
          have : NI 30 = 1 := rfl
          rw [this] at hb hi1
          exact hne ⟨rfl, by omega⟩
        simp [cellF, ha, wrL]
    case aaload =>
      have hlen : len = 1 := by simpa [okE] using hE
      subst hlen
      obtain ⟨x, t, rfl, h⟩ := pI_inv hgo
      obtain ⟨c1, i1, t, rfl, hi1, h⟩ := pR_inv h
      cases hr : ra c1 with
      | none => rw [hr] at h; exact h.elim
      | some q =>
        rw [hr] at h
        obtain ⟨c2, o2, n2, k2⟩ := q
        obtain ⟨C, hC⟩ := ra_ty c1 (ra_lt hr) _ hr
        have hc1 : (wsx X u)[off c1 + i1]? = some (X.ad c1 i1, .inl (X.kA k2, n2, .inr (.inr (.inr (.inr (fun j => some (X.ad c2 (o2 + j)))))))) := by rw [wsx_at X u hi1, cellF_ref X _ _ i1 hr]
        exact va_aldq (D := X.D) hx hb hK hP (off c1 + i1) k2 hc1 (hC X) h.1 hdec (ih _ b _ (.inr (.inr (c2, o2 + x.toNatClampNeg)) :: t) _ _ _ _ hrest h.2 hP hS hl)
    case arraylength =>
      have hlen : len = 1 := by simpa [okE] using hE
      subst hlen
      obtain ⟨c1, i1, t, rfl, hi1, h⟩ := pR_inv hgo
      unfold alen at h
      split at h
      · next n hn =>
        split at hn
        · next hia =>
          cases hn
          have hc1 : (wsx X u)[off c1 + i1]? = some (X.ad c1 i1, .inl (X.kA 0, ln c1 i1, .inl (u.1 c1 i1))) := by rw [wsx_at X u hi1, cellF_int X _ _ i1 hia]
          exact va_alen (D := X.D) hx hb hK hP (off c1 + i1) 0 hc1 (ty := .int) rfl rfl hdec (ih _ b _ (.inl (nI (ln c1 i1)) :: t) _ _ _ _ hrest h hP hS hl)
        · split at hn
          · next q hr =>
            cases hn
            obtain ⟨c2, o2, n2, k2⟩ := q
            obtain ⟨C, hC⟩ := ra_ty c1 (ra_lt hr) _ hr
            have hc1 : (wsx X u)[off c1 + i1]? = some (X.ad c1 i1, .inl (X.kA k2, n2, .inr (.inr (.inr (.inr (fun j => some (X.ad c2 (o2 + j)))))))) := by rw [wsx_at X u hi1, cellF_ref X _ _ i1 hr]
            exact va_alen (D := X.D) hx hb hK hP (off c1 + i1) k2 hc1 (ty := .object C) (hC X) rfl hdec (ih _ b _ (.inl (nI n2) :: t) _ _ _ _ hrest h hP hS hl)
          · split at hn
            · next hch =>
              cases hn
              subst hch
              have hc1 : (wsx X u)[off 30 + i1]? = some (X.ad 30 i1, .inl (X.kA 1, 2, .inr (.inl u.2))) := by rw [wsx_at X u hi1, cellF_ch]
              exact va_alen (D := X.D) hx hb hK hP (off 30 + i1) 1 hc1 (ty := .long) rfl rfl hdec (ih _ b _ (.inl (nI 2) :: t) _ _ _ _ hrest h hP hS hl)
            · cases hn
      · exact h.elim
    case tableswitch df lo hi os =>
      simp only [okE, Bool.and_eq_true, beq_iff_eq, decide_eq_true_eq, List.all_eq_true, List.mem_range] at hE
      obtain ⟨⟨⟨⟨⟨hdf, rfl⟩, hhi⟩, hsz⟩, hbig⟩, hall⟩ := hE
      obtain ⟨x, t, rfl, h⟩ := pI_inv hgo
      have key : ∀ (bs : List Nat) (j : Nat), sw bs j x (fun b' => RunB (d + 1) Y b' L t u Q) a → j + bs.length < 2 ^ 31 → (∃ i b', bs[i]? = some b' ∧ x = nI (j + i) ∧ RunB (d + 1) Y b' L t u Q) ∨ ((∀ i, i < bs.length → x ≠ nI (j + i)) ∧ RunB (d + 1) Y a L t u Q) := by
        intro bs
        induction bs with
        | nil => intro j h _; exact Or.inr ⟨fun i hi => by simp at hi, h⟩
        | cons b1 bs ih2 =>
          intro j h hj2
          by_cases hx1 : x = nI j
          · exact Or.inl ⟨0, b1, rfl, hx1, h.1 hx1⟩
          · rcases ih2 (j + 1) (h.2 hx1) (by simp at hj2; omega) with ⟨i, b', q1, q2, q3⟩ | ⟨q1, q2⟩
            · exact Or.inl ⟨i + 1, b', q1, by rw [q2]; congr 1; omega, q3⟩
            · refine Or.inr ⟨fun i hi => ?_, q2⟩
              cases i with
              | zero => exact hx1
              | succ i => have := q1 i (by simpa using hi); rw [show j + (i + 1) = j + 1 + i by omega]; exact this
      rcases key xs 0 h (by omega) with ⟨i, b', q1, q2, q3⟩ | ⟨q1, q2⟩
      · have hi : i < xs.length := (List.getElem?_eq_some_iff.mp q1).1
        have hxi : x.toInt = (i : Int) := by rw [q2, Nat.zero_add]; exact nI_toInt (by omega)
        have ho : os[(x.toInt - 0).toNat]? = some (os.getD i 0) := by
          rw [hxi]
          have : ((i : Int) - 0).toNat = i := by omega
          rw [this]
          have hlt : i < os.size := by omega
          simp [Array.getD, hlt]
        have ht := hall i hi
        rw [show xs.getD i 0 = b' by simp [List.getD, q1]] at ht
        exact lv_tableIn hx hb hdec (by rw [hxi]; omega) (by rw [hxi]; omega) ho ht (hj q3 hP hS hl)
      · refine lv_tableOut hx hb hdec ?_ hdf (hj q2 hP hS hl)
        by_cases z : x.toInt < 0
        · exact Or.inl z
        · right
          have hnn : ¬ x < 0 := by
            intro z1
            have := Int32.lt_iff_toInt_lt.mp z1
            simp at this
            omega
          obtain ⟨j, hj1, hj2⟩ := nI_of hnn
          have : ¬ j < xs.length := fun z2 => q1 j z2 (by rw [hj2]; congr 1; omega)
          rw [hj2, nI_toInt hj1]
          omega
    case invokevirtual i =>
      simp only [okE, Bool.and_eq_true, beq_iff_eq, decide_eq_true_eq] at hE
      obtain ⟨⟨⟨⟨⟨⟨⟨⟨⟨⟨rfl, hk9⟩, hcl⟩, hl1⟩, hl2⟩, hl3⟩, hl4⟩, hl5⟩, hmx⟩, hnm⟩, hpl⟩ := hE
      obtain ⟨as, t, has, rfl, h⟩ := pops_inv _ _ _ _ hgo
      obtain ⟨c1, i1, t, rfl, rfl, hi1, hct, h⟩ := pR_inv h
      simp only [List.append_nil] at h
      cases hr : wCl[c1]? with
      | none => rw [hr] at hcl; cases hcl
      | some q =>
        rw [hr] at hcl
        simp only [decide_eq_true_eq] at hcl
        have hcode := hts _ (inT_mem hl5)
        have hG : GoodIn tg (wsG g) := by
          intro w hw
          rcases List.mem_cons.mp hw with rfl | hw
          · exact tg_goodIn2 _ (inT_mem hl5)
          · exact tg_goodIn2 w hw
        have hCB : CallB R s args Y.2.1 i g.1 g.2.1 g.2.2.1 g.2.2.2 (wsG g) (rmD d) 0 0 a := callB_of a hts hG rfl rfl rfl (hts _ (inT_mem hl4)) (hts _ (inT_mem hl1)) ⟨hnm.1, hnm.2, hpl⟩ ⟨by simp only [rmD]; omega, by simp only [rmD]; omega⟩
        refine call_W (X := X) (t := t) (va_runV (As := as.map (vv X)) (b := X.ad c1 i1) ⟨hx, hb, hml, hown, hts⟩ (h l X) (C := g.1.cls) (n := a) ⟨hCB, hts _ (inT_mem hl2), hts _ (inT_mem hl3)⟩ ⟨fun a1 U g1 mk q1 => ?_, ?_, fun U hU hW => ?_⟩ rfl (by simpa using has) (by obtain ⟨lv, hl6, -⟩ := hl; exact hl6.1) ?_ (lv_room (by rw [cats_eq]; exact hct)) hdec ⟨by simpa using hR3, by simpa using hR4⟩) hS (fun r1 u1 H1 locs1 hq hP1 hS1 => ?_)
        · exact ⟨q1.1, q1.2.1, va_K.moved (u := U) (U := U.calling g1 mk a1) (Vm.Alike.refl U.vm) q1.2.2.1, q1.2.2.2.1, NW.same (u := U) (U := U.calling g1 mk a1) rfl q1.2.2.2.2⟩
        · rw [hcl]
          exact va_recv hK hP (q0 := off c1 + i1) hr (by rw [wsx_at X u hi1, cellF_obj X _ _ i1 hk9])
        · exact ⟨rfl, by rw [hU]; exact hP, va_K.moved hW.alike hK, hI, NW.warm hW hNW⟩
        · simp [vv]
        · exact ih _ b _ _ _ _ _ _ hrest hq hP1 hS1 hl
    case invokestatic i =>
      simp only [okE, Bool.and_eq_true, beq_iff_eq] at hE
      obtain ⟨rfl, hE⟩ := hE
      by_cases hk3 : k = 3
      · rw [if_pos hk3] at hE
        simp only [Bool.and_eq_true] at hE
        obtain ⟨⟨⟨hl1, hl2⟩, hl3⟩, hl4⟩ := hE
        simp only [go, if_pos hk3] at hgo
        obtain ⟨n, t1, rfl, g1⟩ := pI_inv hgo
        obtain ⟨dp, t2, rfl, g2⟩ := pI_inv g1
        obtain ⟨c2, i2, t3, rfl, g3⟩ := pR_inv g2
        obtain ⟨sp, t4, rfl, g4⟩ := pI_inv g3
        obtain ⟨c1, i1, t, rfl, hia1, hi1, hia2, hi2, hct, h1, h2, h3, h4, h5, h⟩ := pR_inv g4
        refine va_copyi (D := X.D) hx hb (by rw [hml]; obtain ⟨lv, hl6, -⟩ := hl; exact hl6.1.symm) hown (hts _ (inT_mem hl1)) (hts _ (inT_mem hl2)) (hts _ (inT_mem hl3)) (hts _ (inT_mem hl4)) hK hP (wsx_D hI u) hS (off c1 + i1) (off c2 + i2) 0 0 (ty := .int) (by rw [wsx_at X u hi1, cellF_int X _ _ i1 hia1]) (by rw [wsx_at X u hi2, cellF_int X _ _ i2 hia2]) rfl rfl rfl h1 h2 h3 h4 h5 (fun _ _ => rfl) (by omega) (by rw [cats_eq]; have := nfw; omega) hdec (fun H1 locs1 hP1 _ hS1 => ?_)
        rw [wsx_set (u := u) hi2 (cpy u c1 i1 c2 i2 sp.toNatClampNeg dp.toNatClampNeg n.toNatClampNeg) _ (by rw [cellF_int X _ _ i2 hia2]; simp [cpy]) (fun a b _ hne => by simp [cpy, hne])] at hP1
        exact ih _ b _ _ _ _ _ _ hrest h hP1 hS1 hl
      rw [if_neg hk3] at hE
      have hls : c.maxLocals = ls.size := by rw [hml]; obtain ⟨lv, hl6, -⟩ := hl; exact hl6.1.symm
      by_cases hk4 : k = 4
      · rw [if_pos hk4] at hE
        simp only [Bool.and_eq_true] at hE
        obtain ⟨⟨⟨hl1, hl2⟩, hl3⟩, hl4⟩ := hE
        simp only [go, if_neg hk3, if_pos hk4] at hgo
        obtain ⟨y, t1, rfl, g1⟩ := pI_inv hgo
        obtain ⟨x, t, rfl, hct, h⟩ := pI_inv g1
        exact va_mmax hx hb hls hown (hts _ (inT_mem hl1)) (hts _ (inT_mem hl2)) (hts _ (inT_mem hl3)) (hts _ (inT_mem hl4)) (by omega) (by rw [cats_eq]; omega) hR3 hR4 hdec (ih _ b _ (.inl (if x < y then y else x) :: t) _ _ _ _ hrest h hP hS hl)
      rw [if_neg hk4] at hE
      by_cases hk5 : k = 5
      · rw [if_pos hk5] at hE
        simp only [Bool.and_eq_true] at hE
        obtain ⟨⟨⟨hl1, hl2⟩, hl3⟩, hl4⟩ := hE
        simp only [go, if_neg hk3, if_neg hk4, if_pos hk5] at hgo
        obtain ⟨y, t1, rfl, g1⟩ := pI_inv hgo
        obtain ⟨x, t, rfl, hct, h⟩ := pI_inv g1
        exact va_mmin hx hb hls hown (hts _ (inT_mem hl1)) (hts _ (inT_mem hl2)) (hts _ (inT_mem hl3)) (hts _ (inT_mem hl4)) (by omega) (by rw [cats_eq]; omega) hR3 hR4 hdec (ih _ b _ (.inl (if y < x then y else x) :: t) _ _ _ _ hrest h hP hS hl)
      rw [if_neg hk5] at hE
      by_cases hk6 : k = 6
      · rw [if_pos hk6] at hE
        simp only [Bool.and_eq_true] at hE
        obtain ⟨⟨⟨hl1, hl2⟩, hl3⟩, hl4⟩ := hE
        simp only [go, if_neg hk3, if_neg hk4, if_neg hk5, if_pos hk6] at hgo
        obtain ⟨y, t1, rfl, g1⟩ := pL_inv hgo
        obtain ⟨x, t, rfl, hct, h⟩ := pL_inv g1
        exact va_mmax_long hx hb hls hown (hts _ (inT_mem hl1)) (hts _ (inT_mem hl2)) (hts _ (inT_mem hl3)) (hts _ (inT_mem hl4)) (by omega) (by rw [cats_eq]; omega) hR3 hR4 hdec (ih _ b _ (.inr (.inl (if y < x then x else y)) :: t) _ _ _ _ hrest h hP hS hl)
      rw [if_neg hk6] at hE
      simp only [Bool.and_eq_true, decide_eq_true_eq] at hE
      obtain ⟨⟨⟨⟨⟨⟨hl1, hl2⟩, hl4⟩, hl5⟩, hmx⟩, hnm⟩, hpl⟩ := hE
      simp only [go, if_neg hk3, if_neg hk4, if_neg hk5, if_neg hk6] at hgo
      obtain ⟨as, t, has, rfl, hct, h⟩ := pops_inv _ _ _ _ hgo
      simp only [List.append_nil] at h
      have hG : GoodIn tg (wsG g) := by
        intro w hw
        rcases List.mem_cons.mp hw with rfl | hw
        · exact tg_goodIn2 _ (inT_mem hl5)
        · exact tg_goodIn2 w hw
      have hps : PreS s H (okPc X as u) (as.map (vv X)) := ⟨fun a1 U g1 mk q1 => ⟨q1.1, q1.2.1, va_K.moved (u := U) (U := U.calling g1 mk a1) (Vm.Alike.refl U.vm) q1.2.2.1, q1.2.2.2.1, NW.same (u := U) (U := U.calling g1 mk a1) rfl q1.2.2.2.2⟩, fun U hU hW => ⟨rfl, by rw [hU]; exact hP, va_K.moved hW.alike hK, hI, NW.warm hW hNW⟩⟩
      have hrm : (rmD d).frames + 1 ≤ R.frames ∧ 8 + (g.2.2.1 + 11) + (rmD d).locals ≤ R.locals := ⟨by simp only [rmD]; omega, by simp only [rmD]; omega⟩
      by_cases hk2 : k = 2
      · rw [if_pos hk2] at hl1
        refine call_W (X := X) (t := t) (va_runSN (As := as.map (vv X)) ⟨hx, hb, hml, hown, hts⟩ (h l X) (n := a) ⟨va_cnB a hts hG rfl rfl rfl (hNW _ (inN_mem hl1)) (hts _ (inT_mem hl4)) ⟨hnm.1, hnm.2, hpl⟩ hrm, hts _ (inT_mem hl2), trivial⟩ hps rfl (by simpa using has) (by obtain ⟨lv, hl6, -⟩ := hl; exact hl6.1) (by simp) (lv_room (by rw [cats_eq]; exact hct)) hdec ⟨by simpa using hR3, by simpa using hR4⟩) hS (fun r1 u1 H1 locs1 hq hP1 hS1 => ih _ b _ _ _ _ _ _ hrest hq hP1 hS1 hl)
      · rw [if_neg hk2] at hl1
        refine call_W (X := X) (t := t) (va_runS (As := as.map (vv X)) ⟨hx, hb, hml, hown, hts⟩ (h l X) (n := a) ⟨callB_of a hts hG rfl rfl rfl (hts _ (inT_mem hl4)) (hts _ (inT_mem hl1)) ⟨hnm.1, hnm.2, hpl⟩ hrm, hts _ (inT_mem hl2)⟩ hps rfl (by simpa using has) (by obtain ⟨lv, hl6, -⟩ := hl; exact hl6.1) (by simp) (lv_room (by rw [cats_eq]; exact hct)) hdec ⟨by simpa using hR3, by simpa using hR4⟩) hS (fun r1 u1 H1 locs1 hq hP1 hS1 => ih _ b _ _ _ _ _ _ hrest hq hP1 hS1 hl)
    case ireturn =>
      simp only [okE, Bool.and_eq_true, beq_iff_eq, Bool.or_eq_true, decide_eq_true_eq] at hE
      obtain ⟨rfl, hE⟩ := hE
      obtain ⟨v, t, rfl, rfl, hz, h⟩ := pI_inv hgo
      refine hret (some (.inl v)) u H locs ls pc h hP hS ⟨hdec, ?_⟩
      rcases hE with hE | ⟨hk, hE⟩
      · exact Or.inl hE
      · exact Or.inr ⟨hE, hz hk⟩
    case lreturn =>
      simp only [okE, Bool.and_eq_true, beq_iff_eq, decide_eq_true_eq] at hE
      obtain ⟨rfl, hE⟩ := hE
      obtain ⟨v, t, rfl, rfl, h⟩ := pL_inv hgo
      exact hret (some (.inr (.inl v))) u H locs ls pc h hP hS ⟨hdec, hE⟩
    case return_ =>
      simp only [okE, Bool.and_eq_true, beq_iff_eq, decide_eq_true_eq] at hE
      obtain ⟨rfl, hE⟩ := hE
      obtain ⟨rfl, h⟩ := hgo
      exact hret none u H locs ls pc h hP hS ⟨hdec, hE⟩
    all_goals exact absurd hgo id
end GOW
theorem okM_at {Y : Mth} (h : okM Y = true) {b : Nat} (hb : b + 1 < Y.2.2.length) : okRest Y.2.1 Y.1 Y.2.2 (pcOf Y.2.2 b) (esOf Y.2.2 b) (pcOf Y.2.2 (b + 1)) = true := by
  simp only [okM, Bool.and_eq_true, List.all_eq_true, List.mem_range] at h
  exact h.2 b (by omega)
/-- one block -/
theorem run_go {d : Nat} {Y : Mth} {b : Nat} {L : List (Option MV)} {st : List MV} {u : Mem} {Q : Option MV → Mem → Prop} (hok : okM Y = true) (hb : b + 1 < Y.2.2.length) (h : go d Y Q (esOf Y.2.2 b) b L st u) : RunB (d + 1) Y b L st u Q :=
  fun _ _ _ _ _ _ _ _ _ _ _ _ _ _ _ _ _ C0 hP hS hl => go_W C0 _ _ b _ _ _ _ _ _ (okM_at hok hb) h hP hS hl
/-- fewer known locals are enough -/
theorem run_le {d : Nat} {Y : Mth} {b : Nat} {A B : List (Option MV)} {st : List MV} {u : Mem} {Q : Option MV → Mem → Prop} (h : RunB d Y b A st u Q) (hle : leL A B) : RunB d Y b B st u Q :=
  fun _ _ _ _ _ _ _ _ _ _ _ _ _ _ _ _ _ C0 hP hS hl => h _ _ _ _ _ _ _ _ _ _ _ _ _ _ _ _ _ C0 hP hS (hl.le hle)
/-- a weaker end -/
theorem run_mono {d : Nat} {Y : Mth} {b : Nat} {L : List (Option MV)} {st : List MV} {u : Mem} {Q Q' : Option MV → Mem → Prop} (h : RunB d Y b L st u Q) (hq : ∀ r v, Q r v → Q' r v) : RunB d Y b L st u Q' :=
  fun _ _ _ _ _ _ _ _ _ _ _ _ _ _ _ _ _ C0 hP hS hl => h _ _ _ _ _ _ _ _ _ _ _ _ _ _ _ _ _ ⟨C0.1, C0.2.1, C0.2.2.1, C0.2.2.2.1, C0.2.2.2.2.1, C0.2.2.2.2.2.1, C0.2.2.2.2.2.2.1, C0.2.2.2.2.2.2.2.1, fun r u H locs ls pc q => C0.2.2.2.2.2.2.2.2 r u H locs ls pc (hq r u q)⟩ hP hS hl
/-- the locals at a method's entry -/
def argL : List MV → Nat → List (Option MV)
  | [], n => List.replicate n none
  | v :: r, n => if lgq (some v) = true then some v :: none :: argL r (n - 2) else some v :: argL r (n - 1)
theorem argL_at (X : WX) : ∀ (as : List MV) (n i j : Nat) (v : MV), lk (argL as n) j = some v → (i + j, vv X v) ∈ lv_args i (as.map (vv X)) := by
  intro as
  induction as with
  | nil =>
    intro n i j v h
    exfalso
    simp only [argL] at h
    induction n generalizing j with
    | zero => cases h
    | succ n ih => cases j with
      | zero => cases h
      | succ j => exact ih j h
  | cons w r ih =>
    intro n i j v h
    simp only [argL] at h
    simp only [List.map_cons, lv_args, vv_cat]
    by_cases hg : lgq (some w) = true
    · simp only [hg, if_true] at h ⊢
      cases j with
      | zero => cases h; exact List.mem_cons_self
      | succ j => cases j with
        | zero => cases h
        | succ j => exact List.mem_cons_of_mem _ (by have := ih (n - 2) (i + 2) j v h; rwa [show i + 2 + j = i + (j + 1 + 1) by omega] at this)
    · simp only [hg] at h ⊢
      cases j with
      | zero => cases h; exact List.mem_cons_self
      | succ j => exact List.mem_cons_of_mem _ (by have := ih (n - 1) (i + 1) j v h; rw [show i + 1 + j = i + (j + 1) by omega] at this; simpa using this)
theorem argW (X : WX) (as : List MV) : (lg_sl (as.map (vv X))).length = cats as := by
  induction as with
  | nil => rfl
  | cons v r ih =>
    have h : lg_sl ((v :: r).map (vv X)) = (if (vv X v).category = 2 then [.val (vv X v), .second] else [.val (vv X v)]) ++ lg_sl (r.map (vv X)) := by simp only [lg_sl, List.map_cons, List.flatMap_cons]
    rw [h, List.length_append, ih]
    rcases v with x | x | x <;> rfl
/-- a method by the run of its body -/
theorem OKm.of {d : Nat} {Y : Mth} {as : List MV} {u : Mem} {Q : Option MV → Mem → Prop} (hok : okM Y = true) (hn : cats as ≤ Y.1.2.2.1) (h : RunB d Y 0 (argL as Y.1.2.2.1) [] u Q) : OKm d Y.1 as u Q := by
  intro l X
  have hok1 := hok
  simp only [okM, Bool.and_eq_true, decide_eq_true_eq] at hok1
  obtain ⟨⟨⟨hpn, hcl⟩, hpc⟩, -⟩ := hok1
  refine Met.ofW (cc := Y.1.2.1) (maxL := Y.1.2.2.1) (ret := Y.1.2.2.2) hpn rfl ?_
  intro p e s m args below meth c s₁ B hml hv
  obtain ⟨rfl, hP, hK, hI, hNW⟩ := hv
  have hts := atoms_spec (ws := wsG Y.1) B.pre
  have hown : s.vm.findClass Y.2.1 = some m.cls := by rw [← hcl]; exact findClass_of_methodNamed B.named
  have hr := B.returns
  have hlocks := B.notSynchronized
  have hx := B.exec
  have hb := B.bytes
  rw [lg_entry_eq]
  have hl := lv_entry (as.map (vv X)) (n := Y.1.2.2.1) (by rw [argW]; exact hn)
  have hC : Ctx d X Y Q p l e (rmD d) s m (as.map (vv X)).toArray below meth c 0 0 (MQ below (okQc X Q) (as.map (vv X)).toArray s 0 0 (AX X)) := by
    refine ⟨hx, hb, hml, hown, fun w hw => hts w (List.mem_cons_of_mem _ hw), hK, ⟨hI, hNW⟩, ⟨Nat.le_refl _, Nat.le_refl _, Nat.le_refl _, Nat.le_refl _⟩, ?_⟩
    intro r v H locs ls pc hq hP1 hS1 hat
    rcases r with _ | x | x | x
    · exact W.vret hx hb (hr.trans hat.2) (fun t ht hW => ⟨⟨none, v, rfl, hq, by rw [ht]; exact hP1⟩, hS1.F ht⟩) hS1.2.2 hat.1
    · rcases hat.2 with hi | ⟨hz, hz2⟩
      · exact W.iret hx hb (hr.trans hi) (fun t ht hW => ⟨⟨some (.inl x), v, rfl, hq, by rw [ht]; exact hP1⟩, hS1.F ht⟩) hS1.2.2 hat.1
      · exact W.zret hx hb (hr.trans hz) (by rcases hz2 with rfl | rfl <;> decide) (fun t ht hW => ⟨⟨some (.inl x), v, rfl, hq, by rw [ht]; exact hP1⟩, hS1.F ht⟩) hS1.2.2 hat.1
    · exact W.lret hx hb (hr.trans hat.2) (fun t ht hW => ⟨⟨some (.inr (.inl x)), v, rfl, hq, by rw [ht]; exact hP1⟩, hS1.F ht⟩) hS1.2.2 hat.1
    · exact hat.elim
  have := h X p l e (rmD d) s m _ below meth c 0 0 _ s.heap [] _ hC hP va_S.rf ⟨_, hl, fun i v hi => by have := argL_at X as _ 0 i v hi; rwa [Nat.zero_add] at this⟩
  rw [hpc] at this
  exact this
end
section
theorem gr_iload {d : Nat} {Y : Mth} {Q : Option MV → Mem → Prop} {z0 : Nat} {n a k b : Nat} {xs : List Nat} {g : Sg} {r : List En} {L : List (Option MV)} {st : List MV} {u : Mem} : go d Y Q ((.iload z0, n, a, k, xs, g) :: r) b L st u = (oI (lk L a) fun x => go d Y Q r b L (.inl x :: st) u) := rfl
theorem gr_iloadn {d : Nat} {Y : Mth} {Q : Option MV → Mem → Prop} {z0 : Fin 4} {n a k b : Nat} {xs : List Nat} {g : Sg} {r : List En} {L : List (Option MV)} {st : List MV} {u : Mem} : go d Y Q ((.iload_n z0, n, a, k, xs, g) :: r) b L st u = (oI (lk L a) fun x => go d Y Q r b L (.inl x :: st) u) := rfl
theorem gr_lload {d : Nat} {Y : Mth} {Q : Option MV → Mem → Prop} {z0 : Nat} {n a k b : Nat} {xs : List Nat} {g : Sg} {r : List En} {L : List (Option MV)} {st : List MV} {u : Mem} : go d Y Q ((.lload z0, n, a, k, xs, g) :: r) b L st u = (oL (lk L a) fun x => go d Y Q r b L (.inr (.inl x) :: st) u) := rfl
theorem gr_lloadn {d : Nat} {Y : Mth} {Q : Option MV → Mem → Prop} {z0 : Fin 4} {n a k b : Nat} {xs : List Nat} {g : Sg} {r : List En} {L : List (Option MV)} {st : List MV} {u : Mem} : go d Y Q ((.lload_n z0, n, a, k, xs, g) :: r) b L st u = (oL (lk L a) fun x => go d Y Q r b L (.inr (.inl x) :: st) u) := rfl
theorem gr_aload {d : Nat} {Y : Mth} {Q : Option MV → Mem → Prop} {z0 : Nat} {n a k b : Nat} {xs : List Nat} {g : Sg} {r : List En} {L : List (Option MV)} {st : List MV} {u : Mem} : go d Y Q ((.aload z0, n, a, k, xs, g) :: r) b L st u = (oR (lk L a) fun c i => go d Y Q r b L (.inr (.inr (c, i)) :: st) u) := rfl
theorem gr_aloadn {d : Nat} {Y : Mth} {Q : Option MV → Mem → Prop} {z0 : Fin 4} {n a k b : Nat} {xs : List Nat} {g : Sg} {r : List En} {L : List (Option MV)} {st : List MV} {u : Mem} : go d Y Q ((.aload_n z0, n, a, k, xs, g) :: r) b L st u = (oR (lk L a) fun c i => go d Y Q r b L (.inr (.inr (c, i)) :: st) u) := rfl
theorem gr_istore {d : Nat} {Y : Mth} {Q : Option MV → Mem → Prop} {z0 : Nat} {n a k b : Nat} {xs : List Nat} {g : Sg} {r : List En} {L : List (Option MV)} {st : List MV} {u : Mem} : go d Y Q ((.istore z0, n, a, k, xs, g) :: r) b L st u = (pI st fun x t => go d Y Q r b (st1 L a (.inl x)) t u) := rfl
theorem gr_istoren {d : Nat} {Y : Mth} {Q : Option MV → Mem → Prop} {z0 : Fin 4} {n a k b : Nat} {xs : List Nat} {g : Sg} {r : List En} {L : List (Option MV)} {st : List MV} {u : Mem} : go d Y Q ((.istore_n z0, n, a, k, xs, g) :: r) b L st u = (pI st fun x t => go d Y Q r b (st1 L a (.inl x)) t u) := rfl
theorem gr_lstore {d : Nat} {Y : Mth} {Q : Option MV → Mem → Prop} {z0 : Nat} {n a k b : Nat} {xs : List Nat} {g : Sg} {r : List En} {L : List (Option MV)} {st : List MV} {u : Mem} : go d Y Q ((.lstore z0, n, a, k, xs, g) :: r) b L st u = (pL st fun x t => go d Y Q r b (st2 L a (.inr (.inl x))) t u) := rfl
theorem gr_lstoren {d : Nat} {Y : Mth} {Q : Option MV → Mem → Prop} {z0 : Fin 4} {n a k b : Nat} {xs : List Nat} {g : Sg} {r : List En} {L : List (Option MV)} {st : List MV} {u : Mem} : go d Y Q ((.lstore_n z0, n, a, k, xs, g) :: r) b L st u = (pL st fun x t => go d Y Q r b (st2 L a (.inr (.inl x))) t u) := rfl
theorem gr_astore {d : Nat} {Y : Mth} {Q : Option MV → Mem → Prop} {z0 : Nat} {n a k b : Nat} {xs : List Nat} {g : Sg} {r : List En} {L : List (Option MV)} {st : List MV} {u : Mem} : go d Y Q ((.astore z0, n, a, k, xs, g) :: r) b L st u = (pR st fun c i t => go d Y Q r b (st1 L a (.inr (.inr (c, i)))) t u) := rfl
theorem gr_astoren {d : Nat} {Y : Mth} {Q : Option MV → Mem → Prop} {z0 : Fin 4} {n a k b : Nat} {xs : List Nat} {g : Sg} {r : List En} {L : List (Option MV)} {st : List MV} {u : Mem} : go d Y Q ((.astore_n z0, n, a, k, xs, g) :: r) b L st u = (pR st fun c i t => go d Y Q r b (st1 L a (.inr (.inr (c, i)))) t u) := rfl
theorem gr_iconst {d : Nat} {Y : Mth} {Q : Option MV → Mem → Prop} {z0 : Int} {n a k b : Nat} {xs : List Nat} {g : Sg} {r : List En} {L : List (Option MV)} {st : List MV} {u : Mem} : go d Y Q ((.iconst z0, n, a, k, xs, g) :: r) b L st u = (go d Y Q r b L (.inl (kI a k) :: st) u) := rfl
theorem gr_bipush {d : Nat} {Y : Mth} {Q : Option MV → Mem → Prop} {z0 : Int} {n a k b : Nat} {xs : List Nat} {g : Sg} {r : List En} {L : List (Option MV)} {st : List MV} {u : Mem} : go d Y Q ((.bipush z0, n, a, k, xs, g) :: r) b L st u = (go d Y Q r b L (.inl (kI a k) :: st) u) := rfl
theorem gr_sipush {d : Nat} {Y : Mth} {Q : Option MV → Mem → Prop} {z0 : Int} {n a k b : Nat} {xs : List Nat} {g : Sg} {r : List En} {L : List (Option MV)} {st : List MV} {u : Mem} : go d Y Q ((.sipush z0, n, a, k, xs, g) :: r) b L st u = (go d Y Q r b L (.inl (kI a k) :: st) u) := rfl
theorem gr_ldc {d : Nat} {Y : Mth} {Q : Option MV → Mem → Prop} {z0 : Nat} {n a k b : Nat} {xs : List Nat} {g : Sg} {r : List En} {L : List (Option MV)} {st : List MV} {u : Mem} : go d Y Q ((.ldc z0, n, a, k, xs, g) :: r) b L st u = (go d Y Q r b L (.inl (kI a k) :: st) u) := rfl
theorem gr_ldcw {d : Nat} {Y : Mth} {Q : Option MV → Mem → Prop} {z0 : Nat} {n a k b : Nat} {xs : List Nat} {g : Sg} {r : List En} {L : List (Option MV)} {st : List MV} {u : Mem} : go d Y Q ((.ldc_w z0, n, a, k, xs, g) :: r) b L st u = (go d Y Q r b L (.inl (kI a k) :: st) u) := rfl
theorem gr_lconst {d : Nat} {Y : Mth} {Q : Option MV → Mem → Prop} {z0 : Fin 2} {n a k b : Nat} {xs : List Nat} {g : Sg} {r : List En} {L : List (Option MV)} {st : List MV} {u : Mem} : go d Y Q ((.lconst z0, n, a, k, xs, g) :: r) b L st u = (go d Y Q r b L (.inr (.inl (kL a k)) :: st) u) := rfl
theorem gr_ldc2w {d : Nat} {Y : Mth} {Q : Option MV → Mem → Prop} {z0 : Nat} {n a k b : Nat} {xs : List Nat} {g : Sg} {r : List En} {L : List (Option MV)} {st : List MV} {u : Mem} : go d Y Q ((.ldc2_w z0, n, a, k, xs, g) :: r) b L st u = (go d Y Q r b L (.inr (.inl (kL a k)) :: st) u) := rfl
theorem gr_iadd {d : Nat} {Y : Mth} {Q : Option MV → Mem → Prop}  {n a k b : Nat} {xs : List Nat} {g : Sg} {r : List En} {L : List (Option MV)} {st : List MV} {u : Mem} : go d Y Q ((.iadd, n, a, k, xs, g) :: r) b L st u = (pI st fun y t => pI t fun x t => go d Y Q r b L (.inl (x + y) :: t) u) := rfl
theorem gr_isub {d : Nat} {Y : Mth} {Q : Option MV → Mem → Prop}  {n a k b : Nat} {xs : List Nat} {g : Sg} {r : List En} {L : List (Option MV)} {st : List MV} {u : Mem} : go d Y Q ((.isub, n, a, k, xs, g) :: r) b L st u = (pI st fun y t => pI t fun x t => go d Y Q r b L (.inl (x - y) :: t) u) := rfl
theorem gr_imul {d : Nat} {Y : Mth} {Q : Option MV → Mem → Prop}  {n a k b : Nat} {xs : List Nat} {g : Sg} {r : List En} {L : List (Option MV)} {st : List MV} {u : Mem} : go d Y Q ((.imul, n, a, k, xs, g) :: r) b L st u = (pI st fun y t => pI t fun x t => go d Y Q r b L (.inl (x * y) :: t) u) := rfl
theorem gr_idiv {d : Nat} {Y : Mth} {Q : Option MV → Mem → Prop}  {n a k b : Nat} {xs : List Nat} {g : Sg} {r : List En} {L : List (Option MV)} {st : List MV} {u : Mem} : go d Y Q ((.idiv, n, a, k, xs, g) :: r) b L st u = (pI st fun y t => pI t fun x t => ¬ y = 0 ∧ go d Y Q r b L (.inl (x / y) :: t) u) := rfl
theorem gr_irem {d : Nat} {Y : Mth} {Q : Option MV → Mem → Prop}  {n a k b : Nat} {xs : List Nat} {g : Sg} {r : List En} {L : List (Option MV)} {st : List MV} {u : Mem} : go d Y Q ((.irem, n, a, k, xs, g) :: r) b L st u = (pI st fun y t => pI t fun x t => ¬ y = 0 ∧ go d Y Q r b L (.inl (irm x y) :: t) u) := rfl
theorem gr_iand {d : Nat} {Y : Mth} {Q : Option MV → Mem → Prop}  {n a k b : Nat} {xs : List Nat} {g : Sg} {r : List En} {L : List (Option MV)} {st : List MV} {u : Mem} : go d Y Q ((.iand, n, a, k, xs, g) :: r) b L st u = (pI st fun y t => pI t fun x t => go d Y Q r b L (.inl (x &&& y) :: t) u) := rfl
theorem gr_ior {d : Nat} {Y : Mth} {Q : Option MV → Mem → Prop}  {n a k b : Nat} {xs : List Nat} {g : Sg} {r : List En} {L : List (Option MV)} {st : List MV} {u : Mem} : go d Y Q ((.ior, n, a, k, xs, g) :: r) b L st u = (pI st fun y t => pI t fun x t => go d Y Q r b L (.inl (x ||| y) :: t) u) := rfl
theorem gr_ishl {d : Nat} {Y : Mth} {Q : Option MV → Mem → Prop}  {n a k b : Nat} {xs : List Nat} {g : Sg} {r : List En} {L : List (Option MV)} {st : List MV} {u : Mem} : go d Y Q ((.ishl, n, a, k, xs, g) :: r) b L st u = (pI st fun y t => pI t fun x t => go d Y Q r b L (.inl (x <<< (y &&& 31)) :: t) u) := rfl
theorem gr_ishr {d : Nat} {Y : Mth} {Q : Option MV → Mem → Prop}  {n a k b : Nat} {xs : List Nat} {g : Sg} {r : List En} {L : List (Option MV)} {st : List MV} {u : Mem} : go d Y Q ((.ishr, n, a, k, xs, g) :: r) b L st u = (pI st fun y t => pI t fun x t => go d Y Q r b L (.inl (x >>> (y &&& 31)) :: t) u) := rfl
theorem gr_iushr {d : Nat} {Y : Mth} {Q : Option MV → Mem → Prop}  {n a k b : Nat} {xs : List Nat} {g : Sg} {r : List En} {L : List (Option MV)} {st : List MV} {u : Mem} : go d Y Q ((.iushr, n, a, k, xs, g) :: r) b L st u = (pI st fun y t => pI t fun x t => go d Y Q r b L (.inl (ush x y) :: t) u) := rfl
theorem gr_i2l {d : Nat} {Y : Mth} {Q : Option MV → Mem → Prop}  {n a k b : Nat} {xs : List Nat} {g : Sg} {r : List En} {L : List (Option MV)} {st : List MV} {u : Mem} : go d Y Q ((.i2l, n, a, k, xs, g) :: r) b L st u = (pI st fun x t => go d Y Q r b L (.inr (.inl x.toInt64) :: t) u) := rfl
theorem gr_i2b {d : Nat} {Y : Mth} {Q : Option MV → Mem → Prop}  {n a k b : Nat} {xs : List Nat} {g : Sg} {r : List En} {L : List (Option MV)} {st : List MV} {u : Mem} : go d Y Q ((.i2b, n, a, k, xs, g) :: r) b L st u = (pI st fun x t => go d Y Q r b L (.inl x.toInt8.toInt32 :: t) u) := rfl
theorem gr_i2s {d : Nat} {Y : Mth} {Q : Option MV → Mem → Prop}  {n a k b : Nat} {xs : List Nat} {g : Sg} {r : List En} {L : List (Option MV)} {st : List MV} {u : Mem} : go d Y Q ((.i2s, n, a, k, xs, g) :: r) b L st u = (pI st fun x t => go d Y Q r b L (.inl x.toInt16.toInt32 :: t) u) := rfl
theorem gr_ladd {d : Nat} {Y : Mth} {Q : Option MV → Mem → Prop}  {n a k b : Nat} {xs : List Nat} {g : Sg} {r : List En} {L : List (Option MV)} {st : List MV} {u : Mem} : go d Y Q ((.ladd, n, a, k, xs, g) :: r) b L st u = (pL st fun y t => pL t fun x t => go d Y Q r b L (.inr (.inl (x + y)) :: t) u) := rfl
theorem gr_lsub {d : Nat} {Y : Mth} {Q : Option MV → Mem → Prop}  {n a k b : Nat} {xs : List Nat} {g : Sg} {r : List En} {L : List (Option MV)} {st : List MV} {u : Mem} : go d Y Q ((.lsub, n, a, k, xs, g) :: r) b L st u = (pL st fun y t => pL t fun x t => go d Y Q r b L (.inr (.inl (x - y)) :: t) u) := rfl
theorem gr_lmul {d : Nat} {Y : Mth} {Q : Option MV → Mem → Prop}  {n a k b : Nat} {xs : List Nat} {g : Sg} {r : List En} {L : List (Option MV)} {st : List MV} {u : Mem} : go d Y Q ((.lmul, n, a, k, xs, g) :: r) b L st u = (pL st fun y t => pL t fun x t => go d Y Q r b L (.inr (.inl (x * y)) :: t) u) := rfl
theorem gr_ldiv {d : Nat} {Y : Mth} {Q : Option MV → Mem → Prop}  {n a k b : Nat} {xs : List Nat} {g : Sg} {r : List En} {L : List (Option MV)} {st : List MV} {u : Mem} : go d Y Q ((.ldiv, n, a, k, xs, g) :: r) b L st u = (pL st fun y t => pL t fun x t => ¬ y = 0 ∧ go d Y Q r b L (.inr (.inl (x / y)) :: t) u) := rfl
theorem gr_lrem {d : Nat} {Y : Mth} {Q : Option MV → Mem → Prop}  {n a k b : Nat} {xs : List Nat} {g : Sg} {r : List En} {L : List (Option MV)} {st : List MV} {u : Mem} : go d Y Q ((.lrem, n, a, k, xs, g) :: r) b L st u = (pL st fun y t => pL t fun x t => ¬ y = 0 ∧ go d Y Q r b L (.inr (.inl (lrm x y)) :: t) u) := rfl
theorem gr_lshl {d : Nat} {Y : Mth} {Q : Option MV → Mem → Prop}  {n a k b : Nat} {xs : List Nat} {g : Sg} {r : List En} {L : List (Option MV)} {st : List MV} {u : Mem} : go d Y Q ((.lshl, n, a, k, xs, g) :: r) b L st u = (pI st fun y t => pL t fun x t => go d Y Q r b L (.inr (.inl (x <<< (y.toInt64 &&& 63))) :: t) u) := rfl
theorem gr_lcmp {d : Nat} {Y : Mth} {Q : Option MV → Mem → Prop}  {n a k b : Nat} {xs : List Nat} {g : Sg} {r : List En} {L : List (Option MV)} {st : List MV} {u : Mem} : go d Y Q ((.lcmp, n, a, k, xs, g) :: r) b L st u = (pL st fun y t => pL t fun x t => go d Y Q r b L (.inl (lg_cmp x y) :: t) u) := rfl
theorem gr_ifCond_eq {d : Nat} {Y : Mth} {Q : Option MV → Mem → Prop} {z0 : Int} {n a k b : Nat} {xs : List Nat} {g : Sg} {r : List En} {L : List (Option MV)} {st : List MV} {u : Mem} : go d Y Q ((.ifCond .eq z0, n, a, k, xs, g) :: r) b L st u = (pI st fun x t => (x = 0 → RunB (d + 1) Y a L t u Q) ∧ (¬ x = 0 → go d Y Q r b L t u)) := rfl
theorem gr_ifCond_ne {d : Nat} {Y : Mth} {Q : Option MV → Mem → Prop} {z0 : Int} {n a k b : Nat} {xs : List Nat} {g : Sg} {r : List En} {L : List (Option MV)} {st : List MV} {u : Mem} : go d Y Q ((.ifCond .ne z0, n, a, k, xs, g) :: r) b L st u = (pI st fun x t => (¬ x = 0 → RunB (d + 1) Y a L t u Q) ∧ (x = 0 → go d Y Q r b L t u)) := rfl
theorem gr_ifCond_lt {d : Nat} {Y : Mth} {Q : Option MV → Mem → Prop} {z0 : Int} {n a k b : Nat} {xs : List Nat} {g : Sg} {r : List En} {L : List (Option MV)} {st : List MV} {u : Mem} : go d Y Q ((.ifCond .lt z0, n, a, k, xs, g) :: r) b L st u = (pI st fun x t => (x < 0 → RunB (d + 1) Y a L t u Q) ∧ (¬ x < 0 → go d Y Q r b L t u)) := rfl
theorem gr_ifCond_ge {d : Nat} {Y : Mth} {Q : Option MV → Mem → Prop} {z0 : Int} {n a k b : Nat} {xs : List Nat} {g : Sg} {r : List En} {L : List (Option MV)} {st : List MV} {u : Mem} : go d Y Q ((.ifCond .ge z0, n, a, k, xs, g) :: r) b L st u = (pI st fun x t => (0 ≤ x → RunB (d + 1) Y a L t u Q) ∧ (¬ 0 ≤ x → go d Y Q r b L t u)) := rfl
theorem gr_ifCond_gt {d : Nat} {Y : Mth} {Q : Option MV → Mem → Prop} {z0 : Int} {n a k b : Nat} {xs : List Nat} {g : Sg} {r : List En} {L : List (Option MV)} {st : List MV} {u : Mem} : go d Y Q ((.ifCond .gt z0, n, a, k, xs, g) :: r) b L st u = (pI st fun x t => (0 < x → RunB (d + 1) Y a L t u Q) ∧ (¬ 0 < x → go d Y Q r b L t u)) := rfl
theorem gr_ifCond_le {d : Nat} {Y : Mth} {Q : Option MV → Mem → Prop} {z0 : Int} {n a k b : Nat} {xs : List Nat} {g : Sg} {r : List En} {L : List (Option MV)} {st : List MV} {u : Mem} : go d Y Q ((.ifCond .le z0, n, a, k, xs, g) :: r) b L st u = (pI st fun x t => (x ≤ 0 → RunB (d + 1) Y a L t u Q) ∧ (¬ x ≤ 0 → go d Y Q r b L t u)) := rfl
theorem gr_ificmp_eq {d : Nat} {Y : Mth} {Q : Option MV → Mem → Prop} {z0 : Int} {n a k b : Nat} {xs : List Nat} {g : Sg} {r : List En} {L : List (Option MV)} {st : List MV} {u : Mem} : go d Y Q ((.if_icmp .eq z0, n, a, k, xs, g) :: r) b L st u = (pI st fun y t => pI t fun x t => (x = y → RunB (d + 1) Y a L t u Q) ∧ (¬ x = y → go d Y Q r b L t u)) := rfl
theorem gr_ificmp_ne {d : Nat} {Y : Mth} {Q : Option MV → Mem → Prop} {z0 : Int} {n a k b : Nat} {xs : List Nat} {g : Sg} {r : List En} {L : List (Option MV)} {st : List MV} {u : Mem} : go d Y Q ((.if_icmp .ne z0, n, a, k, xs, g) :: r) b L st u = (pI st fun y t => pI t fun x t => (¬ x = y → RunB (d + 1) Y a L t u Q) ∧ (x = y → go d Y Q r b L t u)) := rfl
theorem gr_ificmp_lt {d : Nat} {Y : Mth} {Q : Option MV → Mem → Prop} {z0 : Int} {n a k b : Nat} {xs : List Nat} {g : Sg} {r : List En} {L : List (Option MV)} {st : List MV} {u : Mem} : go d Y Q ((.if_icmp .lt z0, n, a, k, xs, g) :: r) b L st u = (pI st fun y t => pI t fun x t => (x < y → RunB (d + 1) Y a L t u Q) ∧ (¬ x < y → go d Y Q r b L t u)) := rfl
theorem gr_ificmp_ge {d : Nat} {Y : Mth} {Q : Option MV → Mem → Prop} {z0 : Int} {n a k b : Nat} {xs : List Nat} {g : Sg} {r : List En} {L : List (Option MV)} {st : List MV} {u : Mem} : go d Y Q ((.if_icmp .ge z0, n, a, k, xs, g) :: r) b L st u = (pI st fun y t => pI t fun x t => (y ≤ x → RunB (d + 1) Y a L t u Q) ∧ (¬ y ≤ x → go d Y Q r b L t u)) := rfl
theorem gr_ificmp_gt {d : Nat} {Y : Mth} {Q : Option MV → Mem → Prop} {z0 : Int} {n a k b : Nat} {xs : List Nat} {g : Sg} {r : List En} {L : List (Option MV)} {st : List MV} {u : Mem} : go d Y Q ((.if_icmp .gt z0, n, a, k, xs, g) :: r) b L st u = (pI st fun y t => pI t fun x t => (y < x → RunB (d + 1) Y a L t u Q) ∧ (¬ y < x → go d Y Q r b L t u)) := rfl
theorem gr_ificmp_le {d : Nat} {Y : Mth} {Q : Option MV → Mem → Prop} {z0 : Int} {n a k b : Nat} {xs : List Nat} {g : Sg} {r : List En} {L : List (Option MV)} {st : List MV} {u : Mem} : go d Y Q ((.if_icmp .le z0, n, a, k, xs, g) :: r) b L st u = (pI st fun y t => pI t fun x t => (x ≤ y → RunB (d + 1) Y a L t u Q) ∧ (¬ x ≤ y → go d Y Q r b L t u)) := rfl
theorem gr_goto {d : Nat} {Y : Mth} {Q : Option MV → Mem → Prop} {z0 : Int} {n a k b : Nat} {xs : List Nat} {g : Sg} {r : List En} {L : List (Option MV)} {st : List MV} {u : Mem} : go d Y Q ((.goto z0, n, a, k, xs, g) :: r) b L st u = (RunB (d + 1) Y a L st u Q) := rfl
theorem gr_iinc {d : Nat} {Y : Mth} {Q : Option MV → Mem → Prop} {z0 : Nat} {z1 : Int} {n a k b : Nat} {xs : List Nat} {g : Sg} {r : List En} {L : List (Option MV)} {st : List MV} {u : Mem} : go d Y Q ((.iinc z0 z1, n, a, k, xs, g) :: r) b L st u = (oI (lk L a) fun x => go d Y Q r b (st1 L a (.inl (x + kI k (xs.headD 0)))) st u) := rfl
theorem gr_dup {d : Nat} {Y : Mth} {Q : Option MV → Mem → Prop}  {n a k b : Nat} {xs : List Nat} {g : Sg} {r : List En} {L : List (Option MV)} {st : List MV} {u : Mem} : go d Y Q ((.dup, n, a, k, xs, g) :: r) b L st u = (pA st fun v t => go d Y Q r b L (v :: v :: t) u) := rfl
theorem gr_dup2 {d : Nat} {Y : Mth} {Q : Option MV → Mem → Prop}  {n a k b : Nat} {xs : List Nat} {g : Sg} {r : List En} {L : List (Option MV)} {st : List MV} {u : Mem} : go d Y Q ((.dup2, n, a, k, xs, g) :: r) b L st u = (pA st fun v t => pA t fun w t => go d Y Q r b L (v :: w :: v :: w :: t) u) := rfl
theorem gr_pop {d : Nat} {Y : Mth} {Q : Option MV → Mem → Prop}  {n a k b : Nat} {xs : List Nat} {g : Sg} {r : List En} {L : List (Option MV)} {st : List MV} {u : Mem} : go d Y Q ((.pop, n, a, k, xs, g) :: r) b L st u = (pA st fun _ t => go d Y Q r b L t u) := rfl
theorem gr_getfield {d : Nat} {Y : Mth} {Q : Option MV → Mem → Prop} {z0 : Nat} {n a k b : Nat} {xs : List Nat} {g : Sg} {r : List En} {L : List (Option MV)} {st : List MV} {u : Mem} : go d Y Q ((.getfield z0, n, a, k, xs, g) :: r) b L st u = (pR st fun c i t => c = a ∧ i < NI a ∧ go d Y Q r b L (fm u a i k :: t) u) := rfl
theorem gr_putfield {d : Nat} {Y : Mth} {Q : Option MV → Mem → Prop} {z0 : Nat} {n a k b : Nat} {xs : List Nat} {g : Sg} {r : List En} {L : List (Option MV)} {st : List MV} {u : Mem} : go d Y Q ((.putfield z0, n, a, k, xs, g) :: r) b L st u = (pI st fun v t => pR t fun c i t => c = a ∧ i < NI a ∧ fk a k = none ∧ (isZ a k = true → v = nI 0 ∨ v = nI 1) ∧ go d Y Q r b L t (wr u a i k v)) := rfl
theorem gr_iaload {d : Nat} {Y : Mth} {Q : Option MV → Mem → Prop}  {n a k b : Nat} {xs : List Nat} {g : Sg} {r : List En} {L : List (Option MV)} {st : List MV} {u : Mem} : go d Y Q ((.iaload, n, a, k, xs, g) :: r) b L st u = (pI st fun x t => pR t fun c i t => ia c = true ∧ i < NI c ∧ vp_in x (ln c i) ∧ go d Y Q r b L (.inl (rd u c i x.toNatClampNeg) :: t) u) := rfl
theorem gr_iastore {d : Nat} {Y : Mth} {Q : Option MV → Mem → Prop}  {n a k b : Nat} {xs : List Nat} {g : Sg} {r : List En} {L : List (Option MV)} {st : List MV} {u : Mem} : go d Y Q ((.iastore, n, a, k, xs, g) :: r) b L st u = (pI st fun v t => pI t fun x t => pR t fun c i t => ia c = true ∧ i < NI c ∧ vp_in x (ln c i) ∧ go d Y Q r b L t (wr u c i x.toNatClampNeg v)) := rfl
theorem gr_laload {d : Nat} {Y : Mth} {Q : Option MV → Mem → Prop}  {n a k b : Nat} {xs : List Nat} {g : Sg} {r : List En} {L : List (Option MV)} {st : List MV} {u : Mem} : go d Y Q ((.laload, n, a, k, xs, g) :: r) b L st u = (pI st fun x t => pR t fun c i t => c = 30 ∧ i < NI c ∧ vp_in x 2 ∧ go d Y Q r b L (.inr (.inl (rdL u x.toNatClampNeg)) :: t) u) := rfl
theorem gr_lastore {d : Nat} {Y : Mth} {Q : Option MV → Mem → Prop}  {n a k b : Nat} {xs : List Nat} {g : Sg} {r : List En} {L : List (Option MV)} {st : List MV} {u : Mem} : go d Y Q ((.lastore, n, a, k, xs, g) :: r) b L st u = (pL st fun v t => pI t fun x t => pR t fun c i t => c = 30 ∧ i < NI c ∧ vp_in x 2 ∧ go d Y Q r b L t (wrL u x.toNatClampNeg v)) := rfl
theorem gr_aaload {d : Nat} {Y : Mth} {Q : Option MV → Mem → Prop}  {n a k b : Nat} {xs : List Nat} {g : Sg} {r : List En} {L : List (Option MV)} {st : List MV} {u : Mem} : go d Y Q ((.aaload, n, a, k, xs, g) :: r) b L st u = (pI st fun x t => pR t fun c i t => i < NI c ∧ (match ra c with
        | some q => vp_in x q.2.2.1 ∧ go d Y Q r b L (.inr (.inr (q.1, q.2.1 + x.toNatClampNeg)) :: t) u
        | none => False)) := rfl
theorem gr_arraylength {d : Nat} {Y : Mth} {Q : Option MV → Mem → Prop}  {n a k b : Nat} {xs : List Nat} {g : Sg} {r : List En} {L : List (Option MV)} {st : List MV} {u : Mem} : go d Y Q ((.arraylength, n, a, k, xs, g) :: r) b L st u = (pR st fun c i t => i < NI c ∧ (match alen c i with
        | some n => go d Y Q r b L (.inl (nI n) :: t) u
        | none => False)) := rfl
theorem gr_tableswitch {d : Nat} {Y : Mth} {Q : Option MV → Mem → Prop} {z0 z1 z2 : Int} {z3 : Array Int} {n a k b : Nat} {xs : List Nat} {g : Sg} {r : List En} {L : List (Option MV)} {st : List MV} {u : Mem} : go d Y Q ((.tableswitch z0 z1 z2 z3, n, a, k, xs, g) :: r) b L st u = (pI st fun x t => sw xs 0 x (fun b' => RunB (d + 1) Y b' L t u Q) a) := rfl
theorem gr_invokevirtual {d : Nat} {Y : Mth} {Q : Option MV → Mem → Prop} {z0 : Nat} {n a k b : Nat} {xs : List Nat} {g : Sg} {r : List En} {L : List (Option MV)} {st : List MV} {u : Mem} : go d Y Q ((.invokevirtual z0, n, a, k, xs, g) :: r) b L st u = (pops a [] st fun as t => pR t fun c i t => c = k ∧ i < NI c ∧ cats t ≤ 8 ∧ OKm d g (.inr (.inr (c, i)) :: as) u fun v u' => go d Y Q r b L (pushR v t) u') := rfl
theorem gr_invokestatic {d : Nat} {Y : Mth} {Q : Option MV → Mem → Prop} {z0 : Nat} {n a k b : Nat} {xs : List Nat} {g : Sg} {r : List En} {L : List (Option MV)} {st : List MV} {u : Mem} : go d Y Q ((.invokestatic z0, n, a, k, xs, g) :: r) b L st u = (if k = 3 then
          pI st fun n t => pI t fun dp t => pR t fun c' i' t => pI t fun sp t => pR t fun c i t => ia c = true ∧ i < NI c ∧ ia c' = true ∧ i' < NI c' ∧ cats t ≤ 8 ∧ ¬ sp < 0 ∧ ¬ dp < 0 ∧ ¬ n < 0 ∧ sp.toNatClampNeg + n.toNatClampNeg ≤ ln c i ∧ dp.toNatClampNeg + n.toNatClampNeg ≤ ln c' i' ∧ go d Y Q r b L t (cpy u c i c' i' sp.toNatClampNeg dp.toNatClampNeg n.toNatClampNeg)
        else if k = 4 then pI st fun y t => pI t fun x t => cats t ≤ 8 ∧ go d Y Q r b L (.inl (if x < y then y else x) :: t) u
        else if k = 5 then pI st fun y t => pI t fun x t => cats t ≤ 8 ∧ go d Y Q r b L (.inl (if y < x then y else x) :: t) u
        else if k = 6 then pL st fun y t => pL t fun x t => cats t ≤ 8 ∧ go d Y Q r b L (.inr (.inl (if y < x then x else y)) :: t) u
        else pops a [] st fun as t => cats t ≤ 8 ∧ OKm d g as u fun v u' => go d Y Q r b L (pushR v t) u') := rfl
theorem gr_ireturn {d : Nat} {Y : Mth} {Q : Option MV → Mem → Prop}  {n a k b : Nat} {xs : List Nat} {g : Sg} {r : List En} {L : List (Option MV)} {st : List MV} {u : Mem} : go d Y Q ((.ireturn, n, a, k, xs, g) :: r) b L st u = (pI st fun v t => t = [] ∧ (k = 1 → v = nI 0 ∨ v = nI 1) ∧ Q (some (.inl v)) u) := rfl
theorem gr_lreturn {d : Nat} {Y : Mth} {Q : Option MV → Mem → Prop}  {n a k b : Nat} {xs : List Nat} {g : Sg} {r : List En} {L : List (Option MV)} {st : List MV} {u : Mem} : go d Y Q ((.lreturn, n, a, k, xs, g) :: r) b L st u = (pL st fun v t => t = [] ∧ Q (some (.inr (.inl v))) u) := rfl
theorem gr_return {d : Nat} {Y : Mth} {Q : Option MV → Mem → Prop}  {n a k b : Nat} {xs : List Nat} {g : Sg} {r : List En} {L : List (Option MV)} {st : List MV} {u : Mem} : go d Y Q ((.return_, n, a, k, xs, g) :: r) b L st u = (st = [] ∧ Q none u) := rfl
theorem gr_nil {d : Nat} {Y : Mth} {Q : Option MV → Mem → Prop} {b : Nat} {L : List (Option MV)} {st : List MV} {u : Mem} : go d Y Q [] b L st u = RunB (d + 1) Y (b + 1) L st u Q := rfl
theorem pI_c {x : Int32} {t : List MV} {K : Int32 → List MV → Prop} : pI (.inl x :: t) K = K x t := rfl
theorem pL_c {x : Int64} {t : List MV} {K : Int64 → List MV → Prop} : pL (.inr (.inl x) :: t) K = K x t := rfl
theorem pR_c {c i : Nat} {t : List MV} {K : Nat → Nat → List MV → Prop} : pR (.inr (.inr (c, i)) :: t) K = K c i t := rfl
theorem pA_i {x : Int32} {t : List MV} {K : MV → List MV → Prop} : pA (.inl x :: t) K = K (.inl x) t := rfl
theorem pA_r {q : Nat × Nat} {t : List MV} {K : MV → List MV → Prop} : pA (.inr (.inr q) :: t) K = K (.inr (.inr q)) t := rfl
theorem oI_c {x : Int32} {K : Int32 → Prop} : oI (some (.inl x)) K = K x := rfl
theorem oL_c {x : Int64} {K : Int64 → Prop} : oL (some (.inr (.inl x))) K = K x := rfl
theorem oR_c {c i : Nat} {K : Nat → Nat → Prop} : oR (some (.inr (.inr (c, i)))) K = K c i := rfl
theorem ps_0 {acc st : List MV} {K : List MV → List MV → Prop} : pops 0 acc st K = K acc st := rfl
theorem ps_s {n : Nat} {acc st : List MV} {v : MV} {K : List MV → List MV → Prop} : pops (n + 1) acc (v :: st) K = pops n (v :: acc) st K := rfl
theorem pu_n {t : List MV} : pushR none t = t := rfl
theorem pu_s {v : MV} {t : List MV} : pushR (some v) t = v :: t := rfl
theorem lg_i {x : Int32} : lgq (some (.inl x)) = false := rfl
theorem lg_l {x : Int64} : lgq (some (.inr (.inl x))) = true := rfl
theorem lg_r {x : Nat × Nat} : lgq (some (.inr (.inr x))) = false := rfl
theorem lg_n : lgq none = false := rfl
theorem kI_p {a : Nat} : kI a 0 = nI a := rfl
theorem kI_m {a : Nat} : kI a 1 = - nI a := rfl
theorem kL_p {a : Nat} : kL a 0 = lN a := rfl
theorem kL_m {a : Nat} : kL a 1 = - lN a := rfl
theorem ct_0 : cats [] = 0 := rfl
theorem ct_i {x : Int32} {t : List MV} : cats (.inl x :: t) = 1 + cats t := rfl
theorem ct_l {x : Int64} {t : List MV} : cats (.inr (.inl x) :: t) = 2 + cats t := rfl
theorem ct_r {x : Nat × Nat} {t : List MV} : cats (.inr (.inr x) :: t) = 1 + cats t := rfl
theorem lk_0 {x : Option MV} {r : List (Option MV)} : lk (x :: r) 0 = x := rfl
theorem lk_s {x : Option MV} {r : List (Option MV)} {n : Nat} : lk (x :: r) (n + 1) = lk r n := rfl
theorem sk_0 {x v : Option MV} {r : List (Option MV)} : sk (x :: r) 0 v = v :: r := rfl
theorem sk_s {x v : Option MV} {r : List (Option MV)} {n : Nat} : sk (x :: r) (n + 1) v = x :: sk r n v := rfl
theorem clr_0 {L : List (Option MV)} : clr L 0 = L := rfl
theorem clr_s {L : List (Option MV)} {i : Nat} : clr L (i + 1) = if lgq (lk L i) = true then sk L i none else L := rfl
theorem sw_n {j D : Nat} {x : Int32} {K : Nat → Prop} : sw [] j x K D = K D := rfl
theorem sw_c {j D b : Nat} {bs : List Nat} {x : Int32} {K : Nat → Prop} : sw (b :: bs) j x K D = ((x = nI j → K b) ∧ (¬ x = nI j → sw bs (j + 1) x K D)) := rfl
theorem ar_n {n : Nat} : argL [] n = List.replicate n none := rfl
theorem ar_c {n : Nat} {v : MV} {r : List MV} : argL (v :: r) n = if lgq (some v) = true then some v :: none :: argL r (n - 2) else some v :: argL r (n - 1) := rfl
theorem tt_and {p : Prop} : (True ∧ p) = p := by simp
theorem tt_imp {p : Prop} : (True → p) = p := by simp
theorem ff_imp {p : Prop} : (False → p) = True := by simp
end
section
def g_0 : Sg := (⟨"", "", ""⟩, ⟨#[]⟩, 0, none)
def g_B_letter : Sg := (⟨RB, "letter", "(I)I"⟩, prog_2_method_2_code, 2, (some .int))
def g_B_takes : Sg := (⟨RB, "takes", "(II)Z"⟩, prog_2_method_3_code, 4, (some .boolean))
def g_B_takesLetter : Sg := (⟨RB, "takesLetter", "(II)Z"⟩, prog_2_method_4_code, 3, (some .boolean))
def g_P_clear : Sg := (⟨RP, "clear", "()V"⟩, prog_3_method_2_code, 1, none)
def g_P_become : Sg := (⟨RP, "become", "(LPosterWall$Pile;)V"⟩, prog_3_method_3_code, 2, none)
def g_P_put : Sg := (⟨RP, "put", "(ILPosterWall$Bill;)V"⟩, prog_3_method_4_code, 6, none)
def g_P_pull : Sg := (⟨RP, "pull", "(I)V"⟩, prog_3_method_5_code, 2, none)
def g_N_addTear : Sg := (⟨RN, "addTear", "(II)V"⟩, prog_4_method_2_code, 3, none)
def g_N_takeBills : Sg := (⟨RN, "takeBills", "(LPosterWall$Text;)I"⟩, prog_4_method_3_code, 6, (some .int))
def g_N_takeRains : Sg := (⟨RN, "takeRains", "(LPosterWall$Text;)I"⟩, prog_4_method_4_code, 3, (some .int))
def g_N_takeLaw : Sg := (⟨RN, "takeLaw", "(LPosterWall$Text;)I"⟩, prog_4_method_5_code, 4, (some .int))
def g_R_begin : Sg := (⟨RR, "begin", "(II)V"⟩, prog_5_method_2_code, 3, none)
def g_R_has : Sg := (⟨RR, "has", "(II)Z"⟩, prog_5_method_3_code, 3, (some .boolean))
def g_R_item : Sg := (⟨RR, "item", "(I)I"⟩, prog_5_method_4_code, 2, (some .int))
def g_R_put : Sg := (⟨RR, "put", "(II)V"⟩, prog_5_method_5_code, 3, none)
def g_S_add : Sg := (⟨RS, "add", "(III)V"⟩, prog_6_method_2_code, 4, none)
def g_S_fit : Sg := (⟨RS, "fit", "(LPosterWall$Stage;)Z"⟩, prog_6_method_3_code, 3, (some .boolean))
def g_T_fact : Sg := (⟨RT, "fact", "(III)I"⟩, prog_7_method_2_code, 4, (some .int))
def g_T_playDays : Sg := (⟨RT, "playDays", "([II)V"⟩, prog_7_method_3_code, 4, none)
def g_T_firstObeyed : Sg := (⟨RT, "firstObeyed", "([II)I"⟩, prog_7_method_4_code, 4, (some .int))
def g_T_play : Sg := (⟨RT, "play", "(II)V"⟩, prog_7_method_5_code, 4, none)
def g_T_layerSeen : Sg := (⟨RT, "layerSeen", "(II)I"⟩, prog_7_method_6_code, 7, (some .int))
def g_T_keepFacts : Sg := (⟨RT, "keepFacts", "(III)V"⟩, prog_7_method_7_code, 11, none)
def g_T_bleach : Sg := (⟨RT, "bleach", "()V"⟩, prog_7_method_8_code, 6, none)
def g_T_obeys : Sg := (⟨RT, "obeys", "(I)Z"⟩, prog_7_method_9_code, 4, (some .boolean))
def g_T_daysObeyed : Sg := (⟨RT, "daysObeyed", "()I"⟩, prog_7_method_10_code, 3, (some .int))
def g_T_daysRead : Sg := (⟨RT, "daysRead", "(I)I"⟩, prog_7_method_11_code, 4, (some .int))
def g_T_isReadOn : Sg := (⟨RT, "isReadOn", "(II)Z"⟩, prog_7_method_12_code, 4, (some .boolean))
def g_T_unreadBills : Sg := (⟨RT, "unreadBills", "()I"⟩, prog_7_method_13_code, 3, (some .int))
def g_X_isFull : Sg := (⟨RX, "isFull", "()Z"⟩, prog_8_method_2_code, 1, (some .boolean))
def g_X_push : Sg := (⟨RX, "push", "(I)V"⟩, prog_8_method_3_code, 2, none)
def g_X_pop : Sg := (⟨RX, "pop", "()V"⟩, prog_8_method_4_code, 1, none)
def g_X_byteAt : Sg := (⟨RX, "byteAt", "(I)I"⟩, prog_8_method_5_code, 2, (some .int))
def g_W_type : Sg := (⟨RW, "type", "(II)I"⟩, prog_1_method_2_code, 3, (some .int))
def g_W_wipe : Sg := (⟨RW, "wipe", "(I)I"⟩, prog_1_method_3_code, 3, (some .int))
def g_W_undo : Sg := (⟨RW, "undo", "(I)I"⟩, prog_1_method_4_code, 2, (some .int))
def g_W_fault : Sg := (⟨RW, "fault", "(I)I"⟩, prog_1_method_5_code, 2, (some .int))
def g_W_poster : Sg := (⟨RW, "poster", "(II)I"⟩, prog_1_method_6_code, 4, (some .int))
def g_W_rain : Sg := (⟨RW, "rain", "(I)I"⟩, prog_1_method_7_code, 2, (some .int))
def g_W_law : Sg := (⟨RW, "law", "(I)I"⟩, prog_1_method_8_code, 2, (some .int))
def g_W_tear : Sg := (⟨RW, "tear", "(II)I"⟩, prog_1_method_9_code, 3, (some .int))
def g_W_back : Sg := (⟨RW, "back", "()I"⟩, prog_1_method_10_code, 1, (some .int))
def g_W_read : Sg := (⟨RW, "read", "(I)I"⟩, prog_1_method_11_code, 5, (some .int))
def g_W_at : Sg := (⟨RW, "at", "(III)I"⟩, prog_1_method_12_code, 4, (some .int))
def g_W_obeyed : Sg := (⟨RW, "obeyed", "(I)I"⟩, prog_1_method_13_code, 2, (some .int))
def g_W_days : Sg := (⟨RW, "days", "(I)I"⟩, prog_1_method_14_code, 3, (some .int))
def g_W_unread : Sg := (⟨RW, "unread", "()I"⟩, prog_1_method_15_code, 1, (some .int))
def g_W_often : Sg := (⟨RW, "often", "()I"⟩, prog_1_method_16_code, 5, (some .int))
def g_W_rip : Sg := (⟨RW, "rip", "(II)I"⟩, prog_1_method_17_code, 3, (some .int))
def g_W_wet : Sg := (⟨RW, "wet", "(I)I"⟩, prog_1_method_18_code, 4, (some .int))
def g_W_paste : Sg := (⟨RW, "paste", "(II)I"⟩, prog_1_method_19_code, 3, (some .int))
def g_W_stick : Sg := (⟨RW, "stick", "(II)I"⟩, prog_1_method_20_code, 3, (some .int))
def g_W_seen : Sg := (⟨RW, "seen", "(III)I"⟩, prog_1_method_21_code, 4, (some .int))
def g_W_forget : Sg := (⟨RW, "forget", "()I"⟩, prog_1_method_22_code, 2, (some .int))
def g_W_never : Sg := (⟨RW, "never", "()I"⟩, prog_1_method_23_code, 3, (some .int))
def g_W_was : Sg := (⟨RW, "was", "(II)I"⟩, prog_1_method_24_code, 4, (some .int))
def g_W_ask : Sg := (⟨RW, "ask", "(I)I"⟩, prog_1_method_25_code, 2, (some .int))
def g_W_shower : Sg := (⟨RW, "shower", "(IIII)J"⟩, prog_1_method_26_code, 5, (some .long))
def g_W_season : Sg := (⟨RW, "season", "(III)I"⟩, prog_1_method_27_code, 6, (some .int))
def g_W_sheet : Sg := (⟨RW, "sheet", "(III)I"⟩, prog_1_method_28_code, 4, (some .int))
def g_W_lose : Sg := (⟨RW, "lose", "(I)I"⟩, prog_1_method_29_code, 2, (some .int))
def g_W_lay : Sg := (⟨RW, "lay", "(IIII)I"⟩, prog_1_method_30_code, 6, (some .int))
def g_W_get : Sg := (⟨RW, "get", "(III)I"⟩, prog_1_method_31_code, 5, (some .int))
def g_W_copy : Sg := (⟨RW, "copy", "(IIIII)I"⟩, prog_1_method_32_code, 8, (some .int))
def g_W_write : Sg := (⟨RW, "write", "(II)I"⟩, prog_1_method_33_code, 6, (some .int))
def g_W_count : Sg := (⟨RW, "count", "(I)I"⟩, prog_1_method_34_code, 2, (some .int))
def g_W_digest : Sg := (⟨RW, "digest", "()J"⟩, prog_1_method_35_code, 4, (some .long))
def g_W_digestDay : Sg := (⟨RW, "digestDay", "(JI)J"⟩, prog_1_method_36_code, 8, (some .long))
def g_W_digestBill : Sg := (⟨RW, "digestBill", "(JI)J"⟩, prog_1_method_37_code, 7, (some .long))
def g_W_isBelow : Sg := (⟨RW, "isBelow", "(II)Z"⟩, prog_1_method_38_code, 2, (some .boolean))
def g_W_finding : Sg := (⟨RW, "finding", "(I)I"⟩, prog_1_method_39_code, 2, (some .int))
def g_W_wrongWith : Sg := (⟨RW, "wrongWith", "(LPosterWall$Row;II)I"⟩, prog_1_method_40_code, 3, (some .int))
def g_W_take : Sg := (⟨RW, "take", "(I)V"⟩, prog_1_method_41_code, 3, none)
def g_W_playTold : Sg := (⟨RW, "playTold", "()V"⟩, prog_1_method_42_code, 1, none)
def g_W_playAhead : Sg := (⟨RW, "playAhead", "(I)V"⟩, prog_1_method_43_code, 2, none)
def g_W_findRip : Sg := (⟨RW, "findRip", "(I)V"⟩, prog_1_method_44_code, 4, none)
def g_W_obeysTorn : Sg := (⟨RW, "obeysTorn", "(III)Z"⟩, prog_1_method_45_code, 5, (some .boolean))
def g_W_setFound : Sg := (⟨RW, "setFound", "(III)V"⟩, prog_1_method_46_code, 4, none)
def g_W_findPaste : Sg := (⟨RW, "findPaste", "(LPosterWall$Bill;)V"⟩, prog_1_method_47_code, 5, none)
def g_W_findStick : Sg := (⟨RW, "findStick", "(LPosterWall$Bill;)V"⟩, prog_1_method_48_code, 8, none)
def g_W_comesOutAsSeen : Sg := (⟨RW, "comesOutAsSeen", "()Z"⟩, prog_1_method_49_code, 1, (some .boolean))
def g_W_thicks : Sg := (⟨RW, "thicks", "(LPosterWall$Bill;)I"⟩, prog_1_method_50_code, 5, (some .int))
def g_W_years : Sg := (⟨RW, "years", "(LPosterWall$Bill;)I"⟩, prog_1_method_51_code, 5, (some .int))
def g_W_tallyLastDay : Sg := (⟨RW, "tallyLastDay", "()V"⟩, prog_1_method_52_code, 4, none)
def g_W_columnToAsk : Sg := (⟨RW, "columnToAsk", "()I"⟩, prog_1_method_53_code, 5, (some .int))
def g_W_greatestLike : Sg := (⟨RW, "greatestLike", "(I)I"⟩, prog_1_method_54_code, 4, (some .int))
def g_W_findShower : Sg := (⟨RW, "findShower", "(III)V"⟩, prog_1_method_55_code, 10, none)
def g_W_obeyedFrom : Sg := (⟨RW, "obeyedFrom", "(IIII)J"⟩, prog_1_method_56_code, 8, (some .long))
def g_W_obeyedBy : Sg := (⟨RW, "obeyedBy", "(IIIII)J"⟩, prog_1_method_57_code, 6, (some .long))
def g_W_obeyedLater : Sg := (⟨RW, "obeyedLater", "(II)Z"⟩, prog_1_method_58_code, 4, (some .boolean))
def g_W_greatestDivisor : Sg := (⟨RW, "greatestDivisor", "(JJ)J"⟩, prog_1_method_59_code, 11, (some .long))
def g_M_in : Sg := (⟨RM, "in", "(JJJ)Z"⟩, prog_10_method_3_code, 6, (some .boolean))
def g_M_no : Sg := (⟨RM, "no", "(I)J"⟩, prog_10_method_4_code, 1, (some .long))
def g_M_isTwo : Sg := (⟨RM, "isTwo", "(I)Z"⟩, prog_10_method_5_code, 1, (some .boolean))
def g_M_isIn : Sg := (⟨RM, "isIn", "(II)Z"⟩, prog_10_method_6_code, 2, (some .boolean))
def g_M_ones : Sg := (⟨RM, "ones", "(I)I"⟩, prog_10_method_7_code, 3, (some .int))
def g_M_lesser : Sg := (⟨RM, "lesser", "(II)I"⟩, prog_10_method_8_code, 2, (some .int))
def g_M_greater : Sg := (⟨RM, "greater", "(II)I"⟩, prog_10_method_9_code, 2, (some .int))
def g_M_part : Sg := (⟨RM, "part", "(JJI)J"⟩, prog_10_method_10_code, 11, (some .long))
def g_M_finds : Sg := (⟨RM, "finds", "(I)I"⟩, prog_10_method_11_code, 2, (some .int))
def g_M_isSheet : Sg := (⟨RM, "isSheet", "(I)Z"⟩, prog_10_method_12_code, 1, (some .boolean))
def g_M_sheet : Sg := (⟨RM, "sheet", "(III)I"⟩, prog_10_method_13_code, 5, (some .int))
def g_M_lose : Sg := (⟨RM, "lose", "(I)I"⟩, prog_10_method_14_code, 2, (some .int))
def g_M_lacks : Sg := (⟨RM, "lacks", "(III)I"⟩, prog_10_method_15_code, 4, (some .int))
def g_M_cut : Sg := (⟨RM, "cut", "(II)I"⟩, prog_10_method_16_code, 2, (some .int))
def g_M_lay : Sg := (⟨RM, "lay", "(IIII)I"⟩, prog_10_method_17_code, 6, (some .int))
def g_M_get : Sg := (⟨RM, "get", "(III)I"⟩, prog_10_method_18_code, 4, (some .int))
def g_M_copy : Sg := (⟨RM, "copy", "(IIIII)I"⟩, prog_10_method_19_code, 7, (some .int))
def g_M_isText : Sg := (⟨RM, "isText", "(I)Z"⟩, prog_10_method_20_code, 1, (some .boolean))
def g_M_type : Sg := (⟨RM, "type", "(II)I"⟩, prog_10_method_21_code, 3, (some .int))
def g_M_wipe : Sg := (⟨RM, "wipe", "(I)I"⟩, prog_10_method_22_code, 3, (some .int))
def g_M_undo : Sg := (⟨RM, "undo", "(I)I"⟩, prog_10_method_23_code, 2, (some .int))
def g_M_figureOf : Sg := (⟨RM, "figureOf", "(III)I"⟩, prog_10_method_24_code, 3, (some .int))
def g_M_headOf : Sg := (⟨RM, "headOf", "(II)I"⟩, prog_10_method_25_code, 2, (some .int))
def g_M_readsPosters : Sg := (⟨RM, "readsPosters", "()I"⟩, prog_10_method_26_code, 9, (some .int))
def g_M_dries : Sg := (⟨RM, "dries", "(I)I"⟩, prog_10_method_27_code, 3, (some .int))
def g_M_readsRains : Sg := (⟨RM, "readsRains", "()I"⟩, prog_10_method_28_code, 3, (some .int))
def g_M_lawless : Sg := (⟨RM, "lawless", "(I)I"⟩, prog_10_method_29_code, 3, (some .int))
def g_M_readsLaw : Sg := (⟨RM, "readsLaw", "()I"⟩, prog_10_method_30_code, 3, (some .int))
def g_M_readsText : Sg := (⟨RM, "readsText", "(I)I"⟩, prog_10_method_31_code, 2, (some .int))
def g_M_fault : Sg := (⟨RM, "fault", "(I)I"⟩, prog_10_method_32_code, 2, (some .int))
def g_M_isPoster : Sg := (⟨RM, "isPoster", "(I)Z"⟩, prog_10_method_33_code, 2, (some .boolean))
def g_M_isDay : Sg := (⟨RM, "isDay", "(I)Z"⟩, prog_10_method_34_code, 1, (some .boolean))
def g_M_isColumn : Sg := (⟨RM, "isColumn", "(I)Z"⟩, prog_10_method_35_code, 1, (some .boolean))
def g_M_posterBy : Sg := (⟨RM, "posterBy", "(II)I"⟩, prog_10_method_36_code, 3, (some .int))
def g_M_poster : Sg := (⟨RM, "poster", "(II)I"⟩, prog_10_method_37_code, 3, (some .int))
def g_M_rain : Sg := (⟨RM, "rain", "(I)I"⟩, prog_10_method_38_code, 2, (some .int))
def g_M_law : Sg := (⟨RM, "law", "(I)I"⟩, prog_10_method_39_code, 2, (some .int))
def g_M_tear : Sg := (⟨RM, "tear", "(II)I"⟩, prog_10_method_40_code, 3, (some .int))
def g_M_back : Sg := (⟨RM, "back", "()I"⟩, prog_10_method_41_code, 1, (some .int))
def g_M_read : Sg := (⟨RM, "read", "(I)I"⟩, prog_10_method_42_code, 4, (some .int))
def g_M_isTorn : Sg := (⟨RM, "isTorn", "(I)V"⟩, prog_10_method_43_code, 2, none)
def g_M_tearsOff : Sg := (⟨RM, "tearsOff", "(I)V"⟩, prog_10_method_44_code, 3, none)
def g_M_sticks : Sg := (⟨RM, "sticks", "(I)V"⟩, prog_10_method_45_code, 4, none)
def g_M_thickOf : Sg := (⟨RM, "thickOf", "(II)I"⟩, prog_10_method_46_code, 3, (some .int))
def g_M_reads : Sg := (⟨RM, "reads", "(II)V"⟩, prog_10_method_47_code, 10, none)
def g_M_bleaches : Sg := (⟨RM, "bleaches", "(I)V"⟩, prog_10_method_48_code, 3, none)
def g_M_lives : Sg := (⟨RM, "lives", "()V"⟩, prog_10_method_49_code, 3, none)
def g_M_find : Sg := (⟨RM, "find", "()V"⟩, prog_10_method_50_code, 1, none)
def g_M_at : Sg := (⟨RM, "at", "(III)I"⟩, prog_10_method_51_code, 4, (some .int))
def g_M_isObeyed : Sg := (⟨RM, "isObeyed", "(I)Z"⟩, prog_10_method_52_code, 5, (some .boolean))
def g_M_obeyed : Sg := (⟨RM, "obeyed", "(I)I"⟩, prog_10_method_53_code, 2, (some .int))
def g_M_daysBy : Sg := (⟨RM, "daysBy", "(I)I"⟩, prog_10_method_54_code, 6, (some .int))
def g_M_days : Sg := (⟨RM, "days", "(I)I"⟩, prog_10_method_55_code, 2, (some .int))
def g_M_readOf : Sg := (⟨RM, "readOf", "(I)I"⟩, prog_10_method_56_code, 6, (some .int))
def g_M_unreadNow : Sg := (⟨RM, "unreadNow", "()I"⟩, prog_10_method_57_code, 3, (some .int))
def g_M_unread : Sg := (⟨RM, "unread", "()I"⟩, prog_10_method_58_code, 1, (some .int))
def g_M_oftenNow : Sg := (⟨RM, "oftenNow", "()I"⟩, prog_10_method_59_code, 5, (some .int))
def g_M_often : Sg := (⟨RM, "often", "()I"⟩, prog_10_method_60_code, 1, (some .int))
def g_M_isObeyedBy : Sg := (⟨RM, "isObeyedBy", "(III)Z"⟩, prog_10_method_61_code, 4, (some .boolean))
def g_M_ripOf : Sg := (⟨RM, "ripOf", "(II)I"⟩, prog_10_method_62_code, 5, (some .int))
def g_M_rip : Sg := (⟨RM, "rip", "(II)I"⟩, prog_10_method_63_code, 3, (some .int))
def g_M_wetOf : Sg := (⟨RM, "wetOf", "(I)I"⟩, prog_10_method_64_code, 5, (some .int))
def g_M_wet : Sg := (⟨RM, "wet", "(I)I"⟩, prog_10_method_65_code, 2, (some .int))
def g_M_pasteOf : Sg := (⟨RM, "pasteOf", "(II)I"⟩, prog_10_method_66_code, 8, (some .int))
def g_M_paste : Sg := (⟨RM, "paste", "(II)I"⟩, prog_10_method_67_code, 3, (some .int))
def g_M_stickOf : Sg := (⟨RM, "stickOf", "(II)I"⟩, prog_10_method_68_code, 10, (some .int))
def g_M_stick : Sg := (⟨RM, "stick", "(II)I"⟩, prog_10_method_69_code, 3, (some .int))
def g_M_seen : Sg := (⟨RM, "seen", "(III)I"⟩, prog_10_method_70_code, 4, (some .int))
def g_M_forget : Sg := (⟨RM, "forget", "()I"⟩, prog_10_method_71_code, 2, (some .int))
def g_M_isSeen : Sg := (⟨RM, "isSeen", "()Z"⟩, prog_10_method_72_code, 4, (some .boolean))
def g_M_neverNow : Sg := (⟨RM, "neverNow", "()I"⟩, prog_10_method_73_code, 3, (some .int))
def g_M_never : Sg := (⟨RM, "never", "()I"⟩, prog_10_method_74_code, 1, (some .int))
def g_M_thicksOf : Sg := (⟨RM, "thicksOf", "(I)I"⟩, prog_10_method_75_code, 5, (some .int))
def g_M_yearsOf : Sg := (⟨RM, "yearsOf", "(I)I"⟩, prog_10_method_76_code, 5, (some .int))
def g_M_wasOf : Sg := (⟨RM, "wasOf", "(II)I"⟩, prog_10_method_77_code, 3, (some .int))
def g_M_was : Sg := (⟨RM, "was", "(II)I"⟩, prog_10_method_78_code, 3, (some .int))
def g_M_askOf : Sg := (⟨RM, "askOf", "(I)I"⟩, prog_10_method_79_code, 9, (some .int))
def g_M_ask : Sg := (⟨RM, "ask", "(I)I"⟩, prog_10_method_80_code, 2, (some .int))
def g_M_showerOf : Sg := (⟨RM, "showerOf", "(IIII)J"⟩, prog_10_method_81_code, 11, (some .long))
def g_M_shower : Sg := (⟨RM, "shower", "(IIII)J"⟩, prog_10_method_82_code, 5, (some .long))
def g_M_lot : Sg := (⟨RM, "lot", "(I)I"⟩, prog_10_method_83_code, 2, (some .int))
def g_M_seasonOf : Sg := (⟨RM, "seasonOf", "(III)I"⟩, prog_10_method_84_code, 5, (some .int))
def g_M_season : Sg := (⟨RM, "season", "(III)I"⟩, prog_10_method_85_code, 4, (some .int))
def g_M_write : Sg := (⟨RM, "write", "(II)I"⟩, prog_10_method_86_code, 5, (some .int))
def g_M_letters : Sg := (⟨RM, "letters", "()I"⟩, prog_10_method_87_code, 3, (some .int))
def g_M_count : Sg := (⟨RM, "count", "(I)I"⟩, prog_10_method_88_code, 2, (some .int))
def g_M_tellsDay : Sg := (⟨RM, "tellsDay", "(JI)J"⟩, prog_10_method_89_code, 7, (some .long))
def g_M_tellsPoster : Sg := (⟨RM, "tellsPoster", "(JI)J"⟩, prog_10_method_90_code, 7, (some .long))
def g_M_digest : Sg := (⟨RM, "digest", "()J"⟩, prog_10_method_91_code, 4, (some .long))
def g_J_bitCount : Sg := (⟨"java/lang/Integer", "bitCount", "(I)I"⟩, prog_11_method_49_code, 1, (some .int))
def g_J_fill : Sg := (⟨"java/util/Arrays", "fill", "([II)V"⟩, prog_14_method_103_code, 4, none)
end
section
def bk_B_letter_0 : List En := [(.iload_n 1, 1, 1, 0, [], g_0), (.aload_n 0, 1, 0, 0, [], g_0), (.getfield 28, 3, 0, 5, [118], g_0), (.invokestatic 31, 3, 2, 2, [363, 335, 0, 67, 336], g_W_isBelow), (.ifCond .eq 21, 3, 1, 0, [], g_0), (.iload_n 1, 1, 1, 0, [], g_0), (.aload_n 0, 1, 0, 0, [], g_0), (.getfield 9, 3, 0, 0, [103], g_0), (.arraylength, 1, 0, 0, [], g_0), (.if_icmp .ge 12, 3, 1, 0, [], g_0), (.aload_n 0, 1, 0, 0, [], g_0), (.getfield 9, 3, 0, 0, [103], g_0), (.iload_n 1, 1, 1, 0, [], g_0), (.iaload, 1, 0, 0, [], g_0), (.goto 4, 3, 2, 0, [], g_0)]
def bk_B_letter_1 : List En := [(.iconst (-1), 1, 1, 1, [], g_0)]
def bk_B_letter_2 : List En := [(.ireturn, 1, 0, 0, [], g_0)]
def cd_B_letter : Cd := [(0, bk_B_letter_0), (29, bk_B_letter_1), (30, bk_B_letter_2), (31, [])]
def Y_B_letter : Mth := (g_B_letter, RB, cd_B_letter)
set_option maxRecDepth 20000 in
theorem ok_B_letter : okM Y_B_letter = true := by decide +kernel
theorem en_B_letter {d : Nat} {u : Mem} {Q : Option MV → Mem → Prop} (as : List MV) (hc : cats as ≤ 2) (h : RunB d Y_B_letter 0 (argL as 2) [] u Q) : OKm d g_B_letter as u Q := OKm.of (Y := Y_B_letter) ok_B_letter hc h
theorem rb_B_letter_0 {d : Nat} {L : List (Option MV)} {st : List MV} {u : Mem} {Q : Option MV → Mem → Prop} (h : go d Y_B_letter Q bk_B_letter_0 0 L st u) : RunB (d + 1) Y_B_letter 0 L st u Q := run_go ok_B_letter (by decide) h
theorem rb_B_letter_1 {d : Nat} {L : List (Option MV)} {st : List MV} {u : Mem} {Q : Option MV → Mem → Prop} (h : go d Y_B_letter Q bk_B_letter_1 1 L st u) : RunB (d + 1) Y_B_letter 1 L st u Q := run_go ok_B_letter (by decide) h
theorem rb_B_letter_2 {d : Nat} {L : List (Option MV)} {st : List MV} {u : Mem} {Q : Option MV → Mem → Prop} (h : go d Y_B_letter Q bk_B_letter_2 2 L st u) : RunB (d + 1) Y_B_letter 2 L st u Q := run_go ok_B_letter (by decide) h
def bk_B_takes_0 : List En := [(.iload_n 2, 1, 2, 0, [], g_0), (.bipush 48, 2, 48, 0, [], g_0), (.isub, 1, 0, 0, [], g_0), (.istore_n 3, 1, 3, 0, [], g_0), (.iload_n 1, 1, 1, 0, [], g_0), (.tableswitch 148 0 4 #[34, 48, 65, 77, 126], 34, 14, 0, [1, 2, 3, 4, 11], g_0)]
def bk_B_takes_1 : List En := [(.aload_n 0, 1, 0, 0, [], g_0), (.bipush 10, 2, 10, 0, [], g_0), (.iload_n 3, 1, 3, 0, [], g_0), (.imul, 1, 0, 0, [], g_0), (.putfield 15, 3, 0, 1, [105], g_0), (.iload_n 3, 1, 3, 0, [], g_0), (.iconst 2, 1, 2, 0, [], g_0), (.invokestatic 31, 3, 2, 2, [363, 335, 0, 67, 336], g_W_isBelow), (.ireturn, 1, 0, 1, [], g_0)]
def bk_B_takes_2 : List En := [(.aload_n 0, 1, 0, 0, [], g_0), (.dup, 1, 0, 0, [], g_0), (.getfield 15, 3, 0, 1, [105], g_0), (.iload_n 3, 1, 3, 0, [], g_0), (.iadd, 1, 0, 0, [], g_0), (.putfield 15, 3, 0, 1, [105], g_0), (.iload_n 3, 1, 3, 0, [], g_0), (.bipush 10, 2, 10, 0, [], g_0), (.invokestatic 31, 3, 2, 2, [363, 335, 0, 67, 336], g_W_isBelow), (.ireturn, 1, 0, 1, [], g_0)]
def bk_B_takes_3 : List En := [(.aload_n 0, 1, 0, 0, [], g_0), (.iload_n 3, 1, 3, 0, [], g_0), (.putfield 19, 3, 0, 2, [108], g_0), (.iload_n 3, 1, 3, 0, [], g_0), (.bipush 6, 2, 6, 0, [], g_0), (.invokestatic 31, 3, 2, 2, [363, 335, 0, 67, 336], g_W_isBelow), (.ireturn, 1, 0, 1, [], g_0)]
def bk_B_takes_4 : List En := [(.aload_n 0, 1, 0, 0, [], g_0), (.iload_n 2, 1, 2, 0, [], g_0), (.bipush 114, 2, 114, 0, [], g_0), (.if_icmp .ne 7, 3, 5, 0, [], g_0), (.iconst 0, 1, 0, 0, [], g_0), (.goto 24, 3, 8, 0, [], g_0)]
def bk_B_takes_5 : List En := [(.iload_n 2, 1, 2, 0, [], g_0), (.bipush 121, 2, 121, 0, [], g_0), (.if_icmp .ne 7, 3, 6, 0, [], g_0), (.iconst 1, 1, 1, 0, [], g_0), (.goto 14, 3, 8, 0, [], g_0)]
def bk_B_takes_6 : List En := [(.iload_n 2, 1, 2, 0, [], g_0), (.bipush 107, 2, 107, 0, [], g_0), (.if_icmp .ne 7, 3, 7, 0, [], g_0), (.iconst 2, 1, 2, 0, [], g_0), (.goto 4, 3, 8, 0, [], g_0)]
def bk_B_takes_7 : List En := [(.iconst (-1), 1, 1, 1, [], g_0)]
def bk_B_takes_8 : List En := [(.putfield 22, 3, 0, 3, [112], g_0), (.aload_n 0, 1, 0, 0, [], g_0), (.getfield 22, 3, 0, 3, [112], g_0), (.iconst (-1), 1, 1, 1, [], g_0), (.if_icmp .eq 7, 3, 9, 0, [], g_0), (.iconst 1, 1, 1, 0, [], g_0), (.goto 4, 3, 10, 0, [], g_0)]
def bk_B_takes_9 : List En := [(.iconst 0, 1, 0, 0, [], g_0)]
def bk_B_takes_10 : List En := [(.ireturn, 1, 0, 1, [], g_0)]
def bk_B_takes_11 : List En := [(.aload_n 0, 1, 0, 0, [], g_0), (.iload_n 3, 1, 3, 0, [], g_0), (.putfield 25, 3, 0, 4, [115], g_0), (.iload_n 3, 1, 3, 0, [], g_0), (.iconst 1, 1, 1, 0, [], g_0), (.if_icmp .lt 13, 3, 12, 0, [], g_0), (.iload_n 3, 1, 3, 0, [], g_0), (.bipush 9, 2, 9, 0, [], g_0), (.if_icmp .gt 7, 3, 12, 0, [], g_0), (.iconst 1, 1, 1, 0, [], g_0), (.goto 4, 3, 13, 0, [], g_0)]
def bk_B_takes_12 : List En := [(.iconst 0, 1, 0, 0, [], g_0)]
def bk_B_takes_13 : List En := [(.ireturn, 1, 0, 1, [], g_0)]
def bk_B_takes_14 : List En := [(.aload_n 0, 1, 0, 0, [], g_0), (.iload_n 1, 1, 1, 0, [], g_0), (.iconst 5, 1, 5, 0, [], g_0), (.isub, 1, 0, 0, [], g_0), (.iload_n 2, 1, 2, 0, [], g_0), (.bipush 97, 2, 97, 0, [], g_0), (.isub, 1, 0, 0, [], g_0), (.invokevirtual 35, 3, 2, 0, [364, 366, 1, 69, 367], g_B_takesLetter), (.ireturn, 1, 0, 1, [], g_0)]
def cd_B_takes : Cd := [(0, bk_B_takes_0), (40, bk_B_takes_1), (54, bk_B_takes_2), (71, bk_B_takes_3), (83, bk_B_takes_4), (94, bk_B_takes_5), (104, bk_B_takes_6), (114, bk_B_takes_7), (115, bk_B_takes_8), (130, bk_B_takes_9), (131, bk_B_takes_10), (132, bk_B_takes_11), (152, bk_B_takes_12), (153, bk_B_takes_13), (154, bk_B_takes_14), (166, [])]
def Y_B_takes : Mth := (g_B_takes, RB, cd_B_takes)
set_option maxRecDepth 20000 in
theorem ok_B_takes : okM Y_B_takes = true := by decide +kernel
theorem en_B_takes {d : Nat} {u : Mem} {Q : Option MV → Mem → Prop} (as : List MV) (hc : cats as ≤ 4) (h : RunB d Y_B_takes 0 (argL as 4) [] u Q) : OKm d g_B_takes as u Q := OKm.of (Y := Y_B_takes) ok_B_takes hc h
theorem rb_B_takes_0 {d : Nat} {L : List (Option MV)} {st : List MV} {u : Mem} {Q : Option MV → Mem → Prop} (h : go d Y_B_takes Q bk_B_takes_0 0 L st u) : RunB (d + 1) Y_B_takes 0 L st u Q := run_go ok_B_takes (by decide) h
theorem rb_B_takes_1 {d : Nat} {L : List (Option MV)} {st : List MV} {u : Mem} {Q : Option MV → Mem → Prop} (h : go d Y_B_takes Q bk_B_takes_1 1 L st u) : RunB (d + 1) Y_B_takes 1 L st u Q := run_go ok_B_takes (by decide) h
theorem rb_B_takes_2 {d : Nat} {L : List (Option MV)} {st : List MV} {u : Mem} {Q : Option MV → Mem → Prop} (h : go d Y_B_takes Q bk_B_takes_2 2 L st u) : RunB (d + 1) Y_B_takes 2 L st u Q := run_go ok_B_takes (by decide) h
theorem rb_B_takes_3 {d : Nat} {L : List (Option MV)} {st : List MV} {u : Mem} {Q : Option MV → Mem → Prop} (h : go d Y_B_takes Q bk_B_takes_3 3 L st u) : RunB (d + 1) Y_B_takes 3 L st u Q := run_go ok_B_takes (by decide) h
theorem rb_B_takes_4 {d : Nat} {L : List (Option MV)} {st : List MV} {u : Mem} {Q : Option MV → Mem → Prop} (h : go d Y_B_takes Q bk_B_takes_4 4 L st u) : RunB (d + 1) Y_B_takes 4 L st u Q := run_go ok_B_takes (by decide) h
theorem rb_B_takes_5 {d : Nat} {L : List (Option MV)} {st : List MV} {u : Mem} {Q : Option MV → Mem → Prop} (h : go d Y_B_takes Q bk_B_takes_5 5 L st u) : RunB (d + 1) Y_B_takes 5 L st u Q := run_go ok_B_takes (by decide) h
theorem rb_B_takes_6 {d : Nat} {L : List (Option MV)} {st : List MV} {u : Mem} {Q : Option MV → Mem → Prop} (h : go d Y_B_takes Q bk_B_takes_6 6 L st u) : RunB (d + 1) Y_B_takes 6 L st u Q := run_go ok_B_takes (by decide) h
theorem rb_B_takes_7 {d : Nat} {L : List (Option MV)} {st : List MV} {u : Mem} {Q : Option MV → Mem → Prop} (h : go d Y_B_takes Q bk_B_takes_7 7 L st u) : RunB (d + 1) Y_B_takes 7 L st u Q := run_go ok_B_takes (by decide) h
theorem rb_B_takes_8 {d : Nat} {L : List (Option MV)} {st : List MV} {u : Mem} {Q : Option MV → Mem → Prop} (h : go d Y_B_takes Q bk_B_takes_8 8 L st u) : RunB (d + 1) Y_B_takes 8 L st u Q := run_go ok_B_takes (by decide) h
theorem rb_B_takes_9 {d : Nat} {L : List (Option MV)} {st : List MV} {u : Mem} {Q : Option MV → Mem → Prop} (h : go d Y_B_takes Q bk_B_takes_9 9 L st u) : RunB (d + 1) Y_B_takes 9 L st u Q := run_go ok_B_takes (by decide) h
theorem rb_B_takes_10 {d : Nat} {L : List (Option MV)} {st : List MV} {u : Mem} {Q : Option MV → Mem → Prop} (h : go d Y_B_takes Q bk_B_takes_10 10 L st u) : RunB (d + 1) Y_B_takes 10 L st u Q := run_go ok_B_takes (by decide) h
theorem rb_B_takes_11 {d : Nat} {L : List (Option MV)} {st : List MV} {u : Mem} {Q : Option MV → Mem → Prop} (h : go d Y_B_takes Q bk_B_takes_11 11 L st u) : RunB (d + 1) Y_B_takes 11 L st u Q := run_go ok_B_takes (by decide) h
theorem rb_B_takes_12 {d : Nat} {L : List (Option MV)} {st : List MV} {u : Mem} {Q : Option MV → Mem → Prop} (h : go d Y_B_takes Q bk_B_takes_12 12 L st u) : RunB (d + 1) Y_B_takes 12 L st u Q := run_go ok_B_takes (by decide) h
theorem rb_B_takes_13 {d : Nat} {L : List (Option MV)} {st : List MV} {u : Mem} {Q : Option MV → Mem → Prop} (h : go d Y_B_takes Q bk_B_takes_13 13 L st u) : RunB (d + 1) Y_B_takes 13 L st u Q := run_go ok_B_takes (by decide) h
theorem rb_B_takes_14 {d : Nat} {L : List (Option MV)} {st : List MV} {u : Mem} {Q : Option MV → Mem → Prop} (h : go d Y_B_takes Q bk_B_takes_14 14 L st u) : RunB (d + 1) Y_B_takes 14 L st u Q := run_go ok_B_takes (by decide) h
def bk_B_takesLetter_0 : List En := [(.iload_n 1, 1, 1, 0, [], g_0), (.aload_n 0, 1, 0, 0, [], g_0), (.getfield 9, 3, 0, 0, [103], g_0), (.arraylength, 1, 0, 0, [], g_0), (.invokestatic 31, 3, 2, 2, [363, 335, 0, 67, 336], g_W_isBelow), (.ifCond .eq 12, 3, 1, 0, [], g_0), (.iload_n 2, 1, 2, 0, [], g_0), (.bipush 8, 2, 8, 0, [], g_0), (.invokestatic 31, 3, 2, 2, [363, 335, 0, 67, 336], g_W_isBelow), (.ifCond .ne 5, 3, 2, 0, [], g_0)]
def bk_B_takesLetter_1 : List En := [(.iconst 0, 1, 0, 0, [], g_0), (.ireturn, 1, 0, 1, [], g_0)]
def bk_B_takesLetter_2 : List En := [(.aload_n 0, 1, 0, 0, [], g_0), (.getfield 9, 3, 0, 0, [103], g_0), (.iload_n 1, 1, 1, 0, [], g_0), (.iload_n 2, 1, 2, 0, [], g_0), (.iastore, 1, 0, 0, [], g_0), (.aload_n 0, 1, 0, 0, [], g_0), (.iload_n 1, 1, 1, 0, [], g_0), (.iconst 1, 1, 1, 0, [], g_0), (.iadd, 1, 0, 0, [], g_0), (.putfield 28, 3, 0, 5, [118], g_0), (.iconst 1, 1, 1, 0, [], g_0), (.ireturn, 1, 0, 1, [], g_0)]
def cd_B_takesLetter : Cd := [(0, bk_B_takesLetter_0), (21, bk_B_takesLetter_1), (23, bk_B_takesLetter_2), (39, [])]
def Y_B_takesLetter : Mth := (g_B_takesLetter, RB, cd_B_takesLetter)
set_option maxRecDepth 20000 in
theorem ok_B_takesLetter : okM Y_B_takesLetter = true := by decide +kernel
theorem en_B_takesLetter {d : Nat} {u : Mem} {Q : Option MV → Mem → Prop} (as : List MV) (hc : cats as ≤ 3) (h : RunB d Y_B_takesLetter 0 (argL as 3) [] u Q) : OKm d g_B_takesLetter as u Q := OKm.of (Y := Y_B_takesLetter) ok_B_takesLetter hc h
theorem rb_B_takesLetter_0 {d : Nat} {L : List (Option MV)} {st : List MV} {u : Mem} {Q : Option MV → Mem → Prop} (h : go d Y_B_takesLetter Q bk_B_takesLetter_0 0 L st u) : RunB (d + 1) Y_B_takesLetter 0 L st u Q := run_go ok_B_takesLetter (by decide) h
theorem rb_B_takesLetter_1 {d : Nat} {L : List (Option MV)} {st : List MV} {u : Mem} {Q : Option MV → Mem → Prop} (h : go d Y_B_takesLetter Q bk_B_takesLetter_1 1 L st u) : RunB (d + 1) Y_B_takesLetter 1 L st u Q := run_go ok_B_takesLetter (by decide) h
theorem rb_B_takesLetter_2 {d : Nat} {L : List (Option MV)} {st : List MV} {u : Mem} {Q : Option MV → Mem → Prop} (h : go d Y_B_takesLetter Q bk_B_takesLetter_2 2 L st u) : RunB (d + 1) Y_B_takesLetter 2 L st u Q := run_go ok_B_takesLetter (by decide) h
def bk_P_clear_0 : List En := [(.aload_n 0, 1, 0, 0, [], g_0), (.getfield 9, 3, 1, 0, [197], g_0), (.iconst 0, 1, 0, 0, [], g_0), (.invokestatic 21, 3, 2, 1, [451, 136, 0, 70, 137], g_J_fill), (.return_, 1, 0, 0, [], g_0)]
def cd_P_clear : Cd := [(0, bk_P_clear_0), (9, [])]
def Y_P_clear : Mth := (g_P_clear, RP, cd_P_clear)
set_option maxRecDepth 20000 in
theorem ok_P_clear : okM Y_P_clear = true := by decide +kernel
theorem en_P_clear {d : Nat} {u : Mem} {Q : Option MV → Mem → Prop} (as : List MV) (hc : cats as ≤ 1) (h : RunB d Y_P_clear 0 (argL as 1) [] u Q) : OKm d g_P_clear as u Q := OKm.of (Y := Y_P_clear) ok_P_clear hc h
theorem rb_P_clear_0 {d : Nat} {L : List (Option MV)} {st : List MV} {u : Mem} {Q : Option MV → Mem → Prop} (h : go d Y_P_clear Q bk_P_clear_0 0 L st u) : RunB (d + 1) Y_P_clear 0 L st u Q := run_go ok_P_clear (by decide) h
def bk_P_become_0 : List En := [(.aload_n 1, 1, 1, 0, [], g_0), (.getfield 9, 3, 1, 0, [197], g_0), (.iconst 0, 1, 0, 0, [], g_0), (.aload_n 0, 1, 0, 0, [], g_0), (.getfield 9, 3, 1, 0, [197], g_0), (.iconst 0, 1, 0, 0, [], g_0), (.bipush 6, 2, 6, 0, [], g_0), (.invokestatic 27, 3, 0, 3, [537, 539, 538, 78], g_0), (.aload_n 1, 1, 1, 0, [], g_0), (.getfield 15, 3, 1, 1, [199], g_0), (.iconst 0, 1, 0, 0, [], g_0), (.aload_n 0, 1, 0, 0, [], g_0), (.getfield 15, 3, 1, 1, [199], g_0), (.iconst 0, 1, 0, 0, [], g_0), (.bipush 48, 2, 48, 0, [], g_0), (.invokestatic 27, 3, 0, 3, [537, 539, 538, 78], g_0), (.aload_n 1, 1, 1, 0, [], g_0), (.getfield 18, 3, 1, 2, [201], g_0), (.iconst 0, 1, 0, 0, [], g_0), (.aload_n 0, 1, 0, 0, [], g_0), (.getfield 18, 3, 1, 2, [201], g_0), (.iconst 0, 1, 0, 0, [], g_0), (.bipush 48, 2, 48, 0, [], g_0), (.invokestatic 27, 3, 0, 3, [537, 539, 538, 78], g_0), (.return_, 1, 0, 0, [], g_0)]
def cd_P_become : Cd := [(0, bk_P_become_0), (46, [])]
def Y_P_become : Mth := (g_P_become, RP, cd_P_become)
set_option maxRecDepth 20000 in
theorem ok_P_become : okM Y_P_become = true := by decide +kernel
theorem en_P_become {d : Nat} {u : Mem} {Q : Option MV → Mem → Prop} (as : List MV) (hc : cats as ≤ 2) (h : RunB d Y_P_become 0 (argL as 2) [] u Q) : OKm d g_P_become as u Q := OKm.of (Y := Y_P_become) ok_P_become hc h
theorem rb_P_become_0 {d : Nat} {L : List (Option MV)} {st : List MV} {u : Mem} {Q : Option MV → Mem → Prop} (h : go d Y_P_become Q bk_P_become_0 0 L st u) : RunB (d + 1) Y_P_become 0 L st u Q := run_go ok_P_become (by decide) h
def bk_P_put_0 : List En := [(.iconst 0, 1, 0, 0, [], g_0), (.istore_n 3, 1, 3, 0, [], g_0)]
def bk_P_put_1 : List En := [(.iload_n 3, 1, 3, 0, [], g_0), (.aload_n 2, 1, 2, 0, [], g_0), (.getfield 33, 3, 0, 5, [119], g_0), (.if_icmp .ge 84, 3, 3, 0, [], g_0), (.aload_n 2, 1, 2, 0, [], g_0), (.getfield 39, 3, 0, 2, [109], g_0), (.iload_n 3, 1, 3, 0, [], g_0), (.iadd, 1, 0, 0, [], g_0), (.istore 4, 2, 4, 0, [], g_0), (.iload 4, 2, 4, 0, [], g_0), (.ifCond .lt 65, 3, 2, 0, [], g_0), (.iload 4, 2, 4, 0, [], g_0), (.bipush 6, 2, 6, 0, [], g_0), (.if_icmp .ge 58, 3, 2, 0, [], g_0), (.aload_n 0, 1, 0, 0, [], g_0), (.getfield 9, 3, 1, 0, [197], g_0), (.iload 4, 2, 4, 0, [], g_0), (.iaload, 1, 0, 0, [], g_0), (.bipush 8, 2, 8, 0, [], g_0), (.if_icmp .ge 46, 3, 2, 0, [], g_0), (.iload 4, 2, 4, 0, [], g_0), (.bipush 8, 2, 8, 0, [], g_0), (.imul, 1, 0, 0, [], g_0), (.aload_n 0, 1, 0, 0, [], g_0), (.getfield 9, 3, 1, 0, [197], g_0), (.iload 4, 2, 4, 0, [], g_0), (.iaload, 1, 0, 0, [], g_0), (.iadd, 1, 0, 0, [], g_0), (.istore 5, 2, 5, 0, [], g_0), (.aload_n 0, 1, 0, 0, [], g_0), (.getfield 15, 3, 1, 1, [199], g_0), (.iload 5, 2, 5, 0, [], g_0), (.iload_n 1, 1, 1, 0, [], g_0), (.iastore, 1, 0, 0, [], g_0), (.aload_n 0, 1, 0, 0, [], g_0), (.getfield 18, 3, 1, 2, [201], g_0), (.iload 5, 2, 5, 0, [], g_0), (.bipush 9, 2, 9, 0, [], g_0), (.iastore, 1, 0, 0, [], g_0), (.aload_n 0, 1, 0, 0, [], g_0), (.getfield 9, 3, 1, 0, [197], g_0), (.iload 4, 2, 4, 0, [], g_0), (.dup2, 1, 0, 0, [], g_0), (.iaload, 1, 0, 0, [], g_0), (.iconst 1, 1, 1, 0, [], g_0), (.iadd, 1, 0, 0, [], g_0), (.iastore, 1, 0, 0, [], g_0)]
def bk_P_put_2 : List En := [(.iinc 3 1, 3, 3, 1, [0], g_0), (.goto (-86), 3, 1, 0, [], g_0)]
def bk_P_put_3 : List En := [(.return_, 1, 0, 0, [], g_0)]
def cd_P_put : Cd := [(0, bk_P_put_0), (2, bk_P_put_1), (85, bk_P_put_2), (91, bk_P_put_3), (92, [])]
def Y_P_put : Mth := (g_P_put, RP, cd_P_put)
set_option maxRecDepth 20000 in
theorem ok_P_put : okM Y_P_put = true := by decide +kernel
theorem en_P_put {d : Nat} {u : Mem} {Q : Option MV → Mem → Prop} (as : List MV) (hc : cats as ≤ 6) (h : RunB d Y_P_put 0 (argL as 6) [] u Q) : OKm d g_P_put as u Q := OKm.of (Y := Y_P_put) ok_P_put hc h
theorem rb_P_put_0 {d : Nat} {L : List (Option MV)} {st : List MV} {u : Mem} {Q : Option MV → Mem → Prop} (h : go d Y_P_put Q bk_P_put_0 0 L st u) : RunB (d + 1) Y_P_put 0 L st u Q := run_go ok_P_put (by decide) h
theorem rb_P_put_1 {d : Nat} {L : List (Option MV)} {st : List MV} {u : Mem} {Q : Option MV → Mem → Prop} (h : go d Y_P_put Q bk_P_put_1 1 L st u) : RunB (d + 1) Y_P_put 1 L st u Q := run_go ok_P_put (by decide) h
theorem rb_P_put_2 {d : Nat} {L : List (Option MV)} {st : List MV} {u : Mem} {Q : Option MV → Mem → Prop} (h : go d Y_P_put Q bk_P_put_2 2 L st u) : RunB (d + 1) Y_P_put 2 L st u Q := run_go ok_P_put (by decide) h
theorem rb_P_put_3 {d : Nat} {L : List (Option MV)} {st : List MV} {u : Mem} {Q : Option MV → Mem → Prop} (h : go d Y_P_put Q bk_P_put_3 3 L st u) : RunB (d + 1) Y_P_put 3 L st u Q := run_go ok_P_put (by decide) h
def bk_P_pull_0 : List En := [(.iload_n 1, 1, 1, 0, [], g_0), (.ifCond .lt 28, 3, 1, 0, [], g_0), (.iload_n 1, 1, 1, 0, [], g_0), (.bipush 6, 2, 6, 0, [], g_0), (.if_icmp .ge 22, 3, 1, 0, [], g_0), (.aload_n 0, 1, 0, 0, [], g_0), (.getfield 9, 3, 1, 0, [197], g_0), (.iload_n 1, 1, 1, 0, [], g_0), (.iaload, 1, 0, 0, [], g_0), (.ifCond .le 13, 3, 1, 0, [], g_0), (.aload_n 0, 1, 0, 0, [], g_0), (.getfield 9, 3, 1, 0, [197], g_0), (.iload_n 1, 1, 1, 0, [], g_0), (.dup2, 1, 0, 0, [], g_0), (.iaload, 1, 0, 0, [], g_0), (.iconst 1, 1, 1, 0, [], g_0), (.isub, 1, 0, 0, [], g_0), (.iastore, 1, 0, 0, [], g_0)]
def bk_P_pull_1 : List En := [(.return_, 1, 0, 0, [], g_0)]
def cd_P_pull : Cd := [(0, bk_P_pull_0), (29, bk_P_pull_1), (30, [])]
def Y_P_pull : Mth := (g_P_pull, RP, cd_P_pull)
set_option maxRecDepth 20000 in
theorem ok_P_pull : okM Y_P_pull = true := by decide +kernel
theorem en_P_pull {d : Nat} {u : Mem} {Q : Option MV → Mem → Prop} (as : List MV) (hc : cats as ≤ 2) (h : RunB d Y_P_pull 0 (argL as 2) [] u Q) : OKm d g_P_pull as u Q := OKm.of (Y := Y_P_pull) ok_P_pull hc h
theorem rb_P_pull_0 {d : Nat} {L : List (Option MV)} {st : List MV} {u : Mem} {Q : Option MV → Mem → Prop} (h : go d Y_P_pull Q bk_P_pull_0 0 L st u) : RunB (d + 1) Y_P_pull 0 L st u Q := run_go ok_P_pull (by decide) h
theorem rb_P_pull_1 {d : Nat} {L : List (Option MV)} {st : List MV} {u : Mem} {Q : Option MV → Mem → Prop} (h : go d Y_P_pull Q bk_P_pull_1 1 L st u) : RunB (d + 1) Y_P_pull 1 L st u Q := run_go ok_P_pull (by decide) h
def bk_N_addTear_0 : List En := [(.aload_n 0, 1, 0, 0, [], g_0), (.getfield 40, 3, 2, 8, [158], g_0), (.aload_n 0, 1, 0, 0, [], g_0), (.getfield 24, 3, 2, 3, [146], g_0), (.arraylength, 1, 0, 0, [], g_0), (.if_icmp .ge 45, 3, 1, 0, [], g_0), (.aload_n 0, 1, 0, 0, [], g_0), (.getfield 40, 3, 2, 8, [158], g_0), (.aload_n 0, 1, 0, 0, [], g_0), (.getfield 27, 3, 2, 4, [148], g_0), (.arraylength, 1, 0, 0, [], g_0), (.if_icmp .ge 33, 3, 1, 0, [], g_0), (.aload_n 0, 1, 0, 0, [], g_0), (.getfield 24, 3, 2, 3, [146], g_0), (.aload_n 0, 1, 0, 0, [], g_0), (.getfield 40, 3, 2, 8, [158], g_0), (.iload_n 1, 1, 1, 0, [], g_0), (.iastore, 1, 0, 0, [], g_0), (.aload_n 0, 1, 0, 0, [], g_0), (.getfield 27, 3, 2, 4, [148], g_0), (.aload_n 0, 1, 0, 0, [], g_0), (.getfield 40, 3, 2, 8, [158], g_0), (.iload_n 2, 1, 2, 0, [], g_0), (.iastore, 1, 0, 0, [], g_0), (.aload_n 0, 1, 0, 0, [], g_0), (.dup, 1, 0, 0, [], g_0), (.getfield 40, 3, 2, 8, [158], g_0), (.iconst 1, 1, 1, 0, [], g_0), (.iadd, 1, 0, 0, [], g_0), (.putfield 40, 3, 2, 8, [158], g_0)]
def bk_N_addTear_1 : List En := [(.return_, 1, 0, 0, [], g_0)]
def cd_N_addTear : Cd := [(0, bk_N_addTear_0), (54, bk_N_addTear_1), (55, [])]
def Y_N_addTear : Mth := (g_N_addTear, RN, cd_N_addTear)
set_option maxRecDepth 20000 in
theorem ok_N_addTear : okM Y_N_addTear = true := by decide +kernel
theorem en_N_addTear {d : Nat} {u : Mem} {Q : Option MV → Mem → Prop} (as : List MV) (hc : cats as ≤ 3) (h : RunB d Y_N_addTear 0 (argL as 3) [] u Q) : OKm d g_N_addTear as u Q := OKm.of (Y := Y_N_addTear) ok_N_addTear hc h
theorem rb_N_addTear_0 {d : Nat} {L : List (Option MV)} {st : List MV} {u : Mem} {Q : Option MV → Mem → Prop} (h : go d Y_N_addTear Q bk_N_addTear_0 0 L st u) : RunB (d + 1) Y_N_addTear 0 L st u Q := run_go ok_N_addTear (by decide) h
theorem rb_N_addTear_1 {d : Nat} {L : List (Option MV)} {st : List MV} {u : Mem} {Q : Option MV → Mem → Prop} (h : go d Y_N_addTear Q bk_N_addTear_1 1 L st u) : RunB (d + 1) Y_N_addTear 1 L st u Q := run_go ok_N_addTear (by decide) h
def bk_N_takeBills_0 : List En := [(.aload_n 0, 1, 0, 0, [], g_0), (.iconst 0, 1, 0, 0, [], g_0), (.putfield 30, 3, 2, 5, [150], g_0), (.iconst 0, 1, 0, 0, [], g_0), (.istore_n 2, 1, 2, 0, [], g_0), (.iconst 0, 1, 0, 0, [], g_0), (.istore_n 3, 1, 3, 0, [], g_0), (.iconst 0, 1, 0, 0, [], g_0), (.istore 4, 2, 4, 0, [], g_0)]
def bk_N_takeBills_1 : List En := [(.iload 4, 2, 4, 0, [], g_0), (.aload_n 1, 1, 1, 0, [], g_0), (.getfield 53, 3, 6, 1, [256], g_0), (.if_icmp .ge 67, 3, 6, 0, [], g_0), (.aload_n 1, 1, 1, 0, [], g_0), (.iload 4, 2, 4, 0, [], g_0), (.invokevirtual 58, 3, 1, 6, [354, 355, 356, 74, 357], g_X_byteAt), (.istore 5, 2, 5, 0, [], g_0), (.iload_n 3, 1, 3, 0, [], g_0), (.iconst 5, 1, 5, 0, [], g_0), (.if_icmp .le 18, 3, 2, 0, [], g_0), (.iload 5, 2, 5, 0, [], g_0), (.bipush 59, 2, 59, 0, [], g_0), (.if_icmp .ne 11, 3, 2, 0, [], g_0), (.iinc 2 1, 3, 2, 1, [0], g_0), (.iconst 0, 1, 0, 0, [], g_0), (.istore_n 3, 1, 3, 0, [], g_0), (.goto 33, 3, 5, 0, [], g_0)]
def bk_N_takeBills_2 : List En := [(.iload_n 2, 1, 2, 0, [], g_0), (.aload_n 0, 1, 0, 0, [], g_0), (.getfield 11, 3, 2, 0, [138], g_0), (.arraylength, 1, 0, 0, [], g_0), (.if_icmp .ge 18, 3, 3, 0, [], g_0), (.aload_n 0, 1, 0, 0, [], g_0), (.getfield 11, 3, 2, 0, [138], g_0), (.iload_n 2, 1, 2, 0, [], g_0), (.aaload, 1, 0, 0, [], g_0), (.iload_n 3, 1, 3, 0, [], g_0), (.iload 5, 2, 5, 0, [], g_0), (.invokevirtual 62, 3, 2, 0, [359, 360, 361, 69, 362], g_B_takes), (.ifCond .ne 6, 3, 4, 0, [], g_0)]
def bk_N_takeBills_3 : List En := [(.iload 4, 2, 4, 0, [], g_0), (.ireturn, 1, 0, 0, [], g_0)]
def bk_N_takeBills_4 : List En := [(.iinc 3 1, 3, 3, 1, [0], g_0)]
def bk_N_takeBills_5 : List En := [(.iinc 4 1, 3, 4, 1, [0], g_0), (.goto (-70), 3, 1, 0, [], g_0)]
def bk_N_takeBills_6 : List En := [(.aload_n 1, 1, 1, 0, [], g_0), (.getfield 53, 3, 6, 1, [256], g_0), (.ifCond .ne 5, 3, 7, 0, [], g_0), (.iconst (-1), 1, 1, 1, [], g_0), (.ireturn, 1, 0, 0, [], g_0)]
def bk_N_takeBills_7 : List En := [(.iload_n 3, 1, 3, 0, [], g_0), (.iconst 5, 1, 5, 0, [], g_0), (.if_icmp .gt 8, 3, 8, 0, [], g_0), (.aload_n 1, 1, 1, 0, [], g_0), (.getfield 53, 3, 6, 1, [256], g_0), (.ireturn, 1, 0, 0, [], g_0)]
def bk_N_takeBills_8 : List En := [(.aload_n 0, 1, 0, 0, [], g_0), (.iload_n 2, 1, 2, 0, [], g_0), (.iconst 1, 1, 1, 0, [], g_0), (.iadd, 1, 0, 0, [], g_0), (.putfield 30, 3, 2, 5, [150], g_0), (.iconst (-1), 1, 1, 1, [], g_0), (.ireturn, 1, 0, 0, [], g_0)]
def cd_N_takeBills : Cd := [(0, bk_N_takeBills_0), (12, bk_N_takeBills_1), (49, bk_N_takeBills_2), (73, bk_N_takeBills_3), (76, bk_N_takeBills_4), (79, bk_N_takeBills_5), (85, bk_N_takeBills_6), (94, bk_N_takeBills_7), (104, bk_N_takeBills_8), (113, [])]
def Y_N_takeBills : Mth := (g_N_takeBills, RN, cd_N_takeBills)
set_option maxRecDepth 20000 in
theorem ok_N_takeBills : okM Y_N_takeBills = true := by decide +kernel
theorem en_N_takeBills {d : Nat} {u : Mem} {Q : Option MV → Mem → Prop} (as : List MV) (hc : cats as ≤ 6) (h : RunB d Y_N_takeBills 0 (argL as 6) [] u Q) : OKm d g_N_takeBills as u Q := OKm.of (Y := Y_N_takeBills) ok_N_takeBills hc h
theorem rb_N_takeBills_0 {d : Nat} {L : List (Option MV)} {st : List MV} {u : Mem} {Q : Option MV → Mem → Prop} (h : go d Y_N_takeBills Q bk_N_takeBills_0 0 L st u) : RunB (d + 1) Y_N_takeBills 0 L st u Q := run_go ok_N_takeBills (by decide) h
theorem rb_N_takeBills_1 {d : Nat} {L : List (Option MV)} {st : List MV} {u : Mem} {Q : Option MV → Mem → Prop} (h : go d Y_N_takeBills Q bk_N_takeBills_1 1 L st u) : RunB (d + 1) Y_N_takeBills 1 L st u Q := run_go ok_N_takeBills (by decide) h
theorem rb_N_takeBills_2 {d : Nat} {L : List (Option MV)} {st : List MV} {u : Mem} {Q : Option MV → Mem → Prop} (h : go d Y_N_takeBills Q bk_N_takeBills_2 2 L st u) : RunB (d + 1) Y_N_takeBills 2 L st u Q := run_go ok_N_takeBills (by decide) h
theorem rb_N_takeBills_3 {d : Nat} {L : List (Option MV)} {st : List MV} {u : Mem} {Q : Option MV → Mem → Prop} (h : go d Y_N_takeBills Q bk_N_takeBills_3 3 L st u) : RunB (d + 1) Y_N_takeBills 3 L st u Q := run_go ok_N_takeBills (by decide) h
theorem rb_N_takeBills_4 {d : Nat} {L : List (Option MV)} {st : List MV} {u : Mem} {Q : Option MV → Mem → Prop} (h : go d Y_N_takeBills Q bk_N_takeBills_4 4 L st u) : RunB (d + 1) Y_N_takeBills 4 L st u Q := run_go ok_N_takeBills (by decide) h
theorem rb_N_takeBills_5 {d : Nat} {L : List (Option MV)} {st : List MV} {u : Mem} {Q : Option MV → Mem → Prop} (h : go d Y_N_takeBills Q bk_N_takeBills_5 5 L st u) : RunB (d + 1) Y_N_takeBills 5 L st u Q := run_go ok_N_takeBills (by decide) h
theorem rb_N_takeBills_6 {d : Nat} {L : List (Option MV)} {st : List MV} {u : Mem} {Q : Option MV → Mem → Prop} (h : go d Y_N_takeBills Q bk_N_takeBills_6 6 L st u) : RunB (d + 1) Y_N_takeBills 6 L st u Q := run_go ok_N_takeBills (by decide) h
theorem rb_N_takeBills_7 {d : Nat} {L : List (Option MV)} {st : List MV} {u : Mem} {Q : Option MV → Mem → Prop} (h : go d Y_N_takeBills Q bk_N_takeBills_7 7 L st u) : RunB (d + 1) Y_N_takeBills 7 L st u Q := run_go ok_N_takeBills (by decide) h
theorem rb_N_takeBills_8 {d : Nat} {L : List (Option MV)} {st : List MV} {u : Mem} {Q : Option MV → Mem → Prop} (h : go d Y_N_takeBills Q bk_N_takeBills_8 8 L st u) : RunB (d + 1) Y_N_takeBills 8 L st u Q := run_go ok_N_takeBills (by decide) h
def bk_N_takeRains_0 : List En := [(.aload_n 0, 1, 0, 0, [], g_0), (.iconst 0, 1, 0, 0, [], g_0), (.putfield 34, 3, 2, 6, [153], g_0), (.aload_n 0, 1, 0, 0, [], g_0), (.getfield 17, 3, 2, 1, [141], g_0), (.iconst 0, 1, 0, 0, [], g_0), (.invokestatic 47, 3, 2, 1, [135, 136, 0, 70, 137], g_J_fill), (.iconst 0, 1, 0, 0, [], g_0), (.istore_n 2, 1, 2, 0, [], g_0)]
def bk_N_takeRains_1 : List En := [(.iload_n 2, 1, 2, 0, [], g_0), (.aload_n 1, 1, 1, 0, [], g_0), (.getfield 53, 3, 6, 1, [256], g_0), (.if_icmp .ge 27, 3, 3, 0, [], g_0), (.aload_n 1, 1, 1, 0, [], g_0), (.iload_n 2, 1, 2, 0, [], g_0), (.invokevirtual 58, 3, 1, 6, [354, 355, 356, 74, 357], g_X_byteAt), (.bipush 48, 2, 48, 0, [], g_0), (.isub, 1, 0, 0, [], g_0), (.bipush 10, 2, 10, 0, [], g_0), (.invokestatic 66, 3, 2, 2, [372, 335, 0, 67, 336], g_W_isBelow), (.ifCond .ne 5, 3, 2, 0, [], g_0), (.iload_n 2, 1, 2, 0, [], g_0), (.ireturn, 1, 0, 0, [], g_0)]
def bk_N_takeRains_2 : List En := [(.iinc 2 1, 3, 2, 1, [0], g_0), (.goto (-29), 3, 1, 0, [], g_0)]
def bk_N_takeRains_3 : List En := [(.iconst 0, 1, 0, 0, [], g_0), (.istore_n 2, 1, 2, 0, [], g_0)]
def bk_N_takeRains_4 : List En := [(.iload_n 2, 1, 2, 0, [], g_0), (.aload_n 1, 1, 1, 0, [], g_0), (.getfield 53, 3, 6, 1, [256], g_0), (.if_icmp .ge 42, 3, 5, 0, [], g_0), (.iload_n 2, 1, 2, 0, [], g_0), (.aload_n 0, 1, 0, 0, [], g_0), (.getfield 17, 3, 2, 1, [141], g_0), (.arraylength, 1, 0, 0, [], g_0), (.if_icmp .ge 33, 3, 5, 0, [], g_0), (.aload_n 0, 1, 0, 0, [], g_0), (.getfield 17, 3, 2, 1, [141], g_0), (.iload_n 2, 1, 2, 0, [], g_0), (.aload_n 1, 1, 1, 0, [], g_0), (.iload_n 2, 1, 2, 0, [], g_0), (.invokevirtual 58, 3, 1, 6, [354, 355, 356, 74, 357], g_X_byteAt), (.bipush 48, 2, 48, 0, [], g_0), (.isub, 1, 0, 0, [], g_0), (.iastore, 1, 0, 0, [], g_0), (.aload_n 0, 1, 0, 0, [], g_0), (.dup, 1, 0, 0, [], g_0), (.getfield 34, 3, 2, 6, [153], g_0), (.iconst 1, 1, 1, 0, [], g_0), (.iadd, 1, 0, 0, [], g_0), (.putfield 34, 3, 2, 6, [153], g_0), (.iinc 2 1, 3, 2, 1, [0], g_0), (.goto (-44), 3, 4, 0, [], g_0)]
def bk_N_takeRains_5 : List En := [(.iconst (-1), 1, 1, 1, [], g_0), (.ireturn, 1, 0, 0, [], g_0)]
def cd_N_takeRains : Cd := [(0, bk_N_takeRains_0), (15, bk_N_takeRains_1), (41, bk_N_takeRains_2), (47, bk_N_takeRains_3), (49, bk_N_takeRains_4), (96, bk_N_takeRains_5), (98, [])]
def Y_N_takeRains : Mth := (g_N_takeRains, RN, cd_N_takeRains)
set_option maxRecDepth 20000 in
theorem ok_N_takeRains : okM Y_N_takeRains = true := by decide +kernel
theorem en_N_takeRains {d : Nat} {u : Mem} {Q : Option MV → Mem → Prop} (as : List MV) (hc : cats as ≤ 3) (h : RunB d Y_N_takeRains 0 (argL as 3) [] u Q) : OKm d g_N_takeRains as u Q := OKm.of (Y := Y_N_takeRains) ok_N_takeRains hc h
theorem rb_N_takeRains_0 {d : Nat} {L : List (Option MV)} {st : List MV} {u : Mem} {Q : Option MV → Mem → Prop} (h : go d Y_N_takeRains Q bk_N_takeRains_0 0 L st u) : RunB (d + 1) Y_N_takeRains 0 L st u Q := run_go ok_N_takeRains (by decide) h
theorem rb_N_takeRains_1 {d : Nat} {L : List (Option MV)} {st : List MV} {u : Mem} {Q : Option MV → Mem → Prop} (h : go d Y_N_takeRains Q bk_N_takeRains_1 1 L st u) : RunB (d + 1) Y_N_takeRains 1 L st u Q := run_go ok_N_takeRains (by decide) h
theorem rb_N_takeRains_2 {d : Nat} {L : List (Option MV)} {st : List MV} {u : Mem} {Q : Option MV → Mem → Prop} (h : go d Y_N_takeRains Q bk_N_takeRains_2 2 L st u) : RunB (d + 1) Y_N_takeRains 2 L st u Q := run_go ok_N_takeRains (by decide) h
theorem rb_N_takeRains_3 {d : Nat} {L : List (Option MV)} {st : List MV} {u : Mem} {Q : Option MV → Mem → Prop} (h : go d Y_N_takeRains Q bk_N_takeRains_3 3 L st u) : RunB (d + 1) Y_N_takeRains 3 L st u Q := run_go ok_N_takeRains (by decide) h
theorem rb_N_takeRains_4 {d : Nat} {L : List (Option MV)} {st : List MV} {u : Mem} {Q : Option MV → Mem → Prop} (h : go d Y_N_takeRains Q bk_N_takeRains_4 4 L st u) : RunB (d + 1) Y_N_takeRains 4 L st u Q := run_go ok_N_takeRains (by decide) h
theorem rb_N_takeRains_5 {d : Nat} {L : List (Option MV)} {st : List MV} {u : Mem} {Q : Option MV → Mem → Prop} (h : go d Y_N_takeRains Q bk_N_takeRains_5 5 L st u) : RunB (d + 1) Y_N_takeRains 5 L st u Q := run_go ok_N_takeRains (by decide) h
def bk_N_takeLaw_0 : List En := [(.aload_n 0, 1, 0, 0, [], g_0), (.iconst 0, 1, 0, 0, [], g_0), (.putfield 37, 3, 2, 7, [155], g_0), (.aload_n 0, 1, 0, 0, [], g_0), (.getfield 21, 3, 2, 2, [143], g_0), (.iconst (-1), 1, 1, 1, [], g_0), (.invokestatic 47, 3, 2, 1, [135, 136, 0, 70, 137], g_J_fill), (.iconst 0, 1, 0, 0, [], g_0), (.istore_n 2, 1, 2, 0, [], g_0)]
def bk_N_takeLaw_1 : List En := [(.iload_n 2, 1, 2, 0, [], g_0), (.aload_n 1, 1, 1, 0, [], g_0), (.getfield 53, 3, 6, 1, [256], g_0), (.if_icmp .ge 35, 3, 3, 0, [], g_0), (.aload_n 1, 1, 1, 0, [], g_0), (.iload_n 2, 1, 2, 0, [], g_0), (.invokevirtual 58, 3, 1, 6, [354, 355, 356, 74, 357], g_X_byteAt), (.istore_n 3, 1, 3, 0, [], g_0), (.iload_n 3, 1, 3, 0, [], g_0), (.bipush 46, 2, 46, 0, [], g_0), (.if_icmp .eq 17, 3, 2, 0, [], g_0), (.iload_n 3, 1, 3, 0, [], g_0), (.bipush 97, 2, 97, 0, [], g_0), (.isub, 1, 0, 0, [], g_0), (.bipush 8, 2, 8, 0, [], g_0), (.invokestatic 66, 3, 2, 2, [372, 335, 0, 67, 336], g_W_isBelow), (.ifCond .ne 5, 3, 2, 0, [], g_0), (.iload_n 2, 1, 2, 0, [], g_0), (.ireturn, 1, 0, 0, [], g_0)]
def bk_N_takeLaw_2 : List En := [(.iinc 2 1, 3, 2, 1, [0], g_0), (.goto (-37), 3, 1, 0, [], g_0)]
def bk_N_takeLaw_3 : List En := [(.iconst 0, 1, 0, 0, [], g_0), (.istore_n 2, 1, 2, 0, [], g_0)]
def bk_N_takeLaw_4 : List En := [(.iload_n 2, 1, 2, 0, [], g_0), (.aload_n 1, 1, 1, 0, [], g_0), (.getfield 53, 3, 6, 1, [256], g_0), (.if_icmp .ge 50, 3, 6, 0, [], g_0), (.iload_n 2, 1, 2, 0, [], g_0), (.aload_n 0, 1, 0, 0, [], g_0), (.getfield 21, 3, 2, 2, [143], g_0), (.arraylength, 1, 0, 0, [], g_0), (.if_icmp .ge 41, 3, 6, 0, [], g_0), (.aload_n 1, 1, 1, 0, [], g_0), (.iload_n 2, 1, 2, 0, [], g_0), (.invokevirtual 58, 3, 1, 6, [354, 355, 356, 74, 357], g_X_byteAt), (.istore_n 3, 1, 3, 0, [], g_0), (.iload_n 3, 1, 3, 0, [], g_0), (.bipush 46, 2, 46, 0, [], g_0), (.if_icmp .eq 23, 3, 5, 0, [], g_0), (.aload_n 0, 1, 0, 0, [], g_0), (.getfield 21, 3, 2, 2, [143], g_0), (.iload_n 2, 1, 2, 0, [], g_0), (.iload_n 3, 1, 3, 0, [], g_0), (.bipush 97, 2, 97, 0, [], g_0), (.isub, 1, 0, 0, [], g_0), (.iastore, 1, 0, 0, [], g_0), (.aload_n 0, 1, 0, 0, [], g_0), (.dup, 1, 0, 0, [], g_0), (.getfield 37, 3, 2, 7, [155], g_0), (.iconst 1, 1, 1, 0, [], g_0), (.iadd, 1, 0, 0, [], g_0), (.putfield 37, 3, 2, 7, [155], g_0)]
def bk_N_takeLaw_5 : List En := [(.iinc 2 1, 3, 2, 1, [0], g_0), (.goto (-52), 3, 4, 0, [], g_0)]
def bk_N_takeLaw_6 : List En := [(.iconst (-1), 1, 1, 1, [], g_0), (.ireturn, 1, 0, 0, [], g_0)]
def cd_N_takeLaw : Cd := [(0, bk_N_takeLaw_0), (15, bk_N_takeLaw_1), (49, bk_N_takeLaw_2), (55, bk_N_takeLaw_3), (57, bk_N_takeLaw_4), (106, bk_N_takeLaw_5), (112, bk_N_takeLaw_6), (114, [])]
def Y_N_takeLaw : Mth := (g_N_takeLaw, RN, cd_N_takeLaw)
set_option maxRecDepth 20000 in
theorem ok_N_takeLaw : okM Y_N_takeLaw = true := by decide +kernel
theorem en_N_takeLaw {d : Nat} {u : Mem} {Q : Option MV → Mem → Prop} (as : List MV) (hc : cats as ≤ 4) (h : RunB d Y_N_takeLaw 0 (argL as 4) [] u Q) : OKm d g_N_takeLaw as u Q := OKm.of (Y := Y_N_takeLaw) ok_N_takeLaw hc h
theorem rb_N_takeLaw_0 {d : Nat} {L : List (Option MV)} {st : List MV} {u : Mem} {Q : Option MV → Mem → Prop} (h : go d Y_N_takeLaw Q bk_N_takeLaw_0 0 L st u) : RunB (d + 1) Y_N_takeLaw 0 L st u Q := run_go ok_N_takeLaw (by decide) h
theorem rb_N_takeLaw_1 {d : Nat} {L : List (Option MV)} {st : List MV} {u : Mem} {Q : Option MV → Mem → Prop} (h : go d Y_N_takeLaw Q bk_N_takeLaw_1 1 L st u) : RunB (d + 1) Y_N_takeLaw 1 L st u Q := run_go ok_N_takeLaw (by decide) h
theorem rb_N_takeLaw_2 {d : Nat} {L : List (Option MV)} {st : List MV} {u : Mem} {Q : Option MV → Mem → Prop} (h : go d Y_N_takeLaw Q bk_N_takeLaw_2 2 L st u) : RunB (d + 1) Y_N_takeLaw 2 L st u Q := run_go ok_N_takeLaw (by decide) h
theorem rb_N_takeLaw_3 {d : Nat} {L : List (Option MV)} {st : List MV} {u : Mem} {Q : Option MV → Mem → Prop} (h : go d Y_N_takeLaw Q bk_N_takeLaw_3 3 L st u) : RunB (d + 1) Y_N_takeLaw 3 L st u Q := run_go ok_N_takeLaw (by decide) h
theorem rb_N_takeLaw_4 {d : Nat} {L : List (Option MV)} {st : List MV} {u : Mem} {Q : Option MV → Mem → Prop} (h : go d Y_N_takeLaw Q bk_N_takeLaw_4 4 L st u) : RunB (d + 1) Y_N_takeLaw 4 L st u Q := run_go ok_N_takeLaw (by decide) h
theorem rb_N_takeLaw_5 {d : Nat} {L : List (Option MV)} {st : List MV} {u : Mem} {Q : Option MV → Mem → Prop} (h : go d Y_N_takeLaw Q bk_N_takeLaw_5 5 L st u) : RunB (d + 1) Y_N_takeLaw 5 L st u Q := run_go ok_N_takeLaw (by decide) h
theorem rb_N_takeLaw_6 {d : Nat} {L : List (Option MV)} {st : List MV} {u : Mem} {Q : Option MV → Mem → Prop} (h : go d Y_N_takeLaw Q bk_N_takeLaw_6 6 L st u) : RunB (d + 1) Y_N_takeLaw 6 L st u Q := run_go ok_N_takeLaw (by decide) h
def bk_R_begin_0 : List En := [(.aload_n 0, 1, 0, 0, [], g_0), (.getfield 9, 3, 3, 0, [273], g_0), (.iconst 0, 1, 0, 0, [], g_0), (.invokestatic 26, 3, 2, 1, [676, 136, 0, 70, 137], g_J_fill), (.aload_n 0, 1, 0, 0, [], g_0), (.iconst 0, 1, 0, 0, [], g_0), (.putfield 15, 3, 3, 1, [275], g_0), (.aload_n 0, 1, 0, 0, [], g_0), (.iload_n 1, 1, 1, 0, [], g_0), (.putfield 19, 3, 3, 2, [277], g_0), (.aload_n 0, 1, 0, 0, [], g_0), (.iconst 0, 1, 0, 0, [], g_0), (.bipush 60, 2, 60, 0, [], g_0), (.iload_n 2, 1, 2, 0, [], g_0), (.invokestatic 32, 3, 0, 5, [677, 678, 0, 75, 679], g_0), (.invokestatic 38, 3, 0, 4, [680, 251, 0, 75, 252], g_0), (.putfield 23, 3, 3, 3, [279], g_0), (.return_, 1, 0, 0, [], g_0)]
def cd_R_begin : Cd := [(0, bk_R_begin_0), (33, [])]
def Y_R_begin : Mth := (g_R_begin, RR, cd_R_begin)
set_option maxRecDepth 20000 in
theorem ok_R_begin : okM Y_R_begin = true := by decide +kernel
theorem en_R_begin {d : Nat} {u : Mem} {Q : Option MV → Mem → Prop} (as : List MV) (hc : cats as ≤ 3) (h : RunB d Y_R_begin 0 (argL as 3) [] u Q) : OKm d g_R_begin as u Q := OKm.of (Y := Y_R_begin) ok_R_begin hc h
theorem rb_R_begin_0 {d : Nat} {L : List (Option MV)} {st : List MV} {u : Mem} {Q : Option MV → Mem → Prop} (h : go d Y_R_begin Q bk_R_begin_0 0 L st u) : RunB (d + 1) Y_R_begin 0 L st u Q := run_go ok_R_begin (by decide) h
def bk_R_has_0 : List En := [(.iload_n 1, 1, 1, 0, [], g_0), (.ifCond .lt 29, 3, 1, 0, [], g_0), (.iload_n 2, 1, 2, 0, [], g_0), (.ifCond .lt 25, 3, 1, 0, [], g_0), (.iload_n 1, 1, 1, 0, [], g_0), (.aload_n 0, 1, 0, 0, [], g_0), (.getfield 23, 3, 3, 3, [279], g_0), (.if_icmp .gt 17, 3, 1, 0, [], g_0), (.iload_n 2, 1, 2, 0, [], g_0), (.aload_n 0, 1, 0, 0, [], g_0), (.getfield 23, 3, 3, 3, [279], g_0), (.iload_n 1, 1, 1, 0, [], g_0), (.isub, 1, 0, 0, [], g_0), (.if_icmp .gt 7, 3, 1, 0, [], g_0), (.iconst 1, 1, 1, 0, [], g_0), (.goto 4, 3, 2, 0, [], g_0)]
def bk_R_has_1 : List En := [(.iconst 0, 1, 0, 0, [], g_0)]
def bk_R_has_2 : List En := [(.ireturn, 1, 0, 1, [], g_0)]
def cd_R_has : Cd := [(0, bk_R_has_0), (30, bk_R_has_1), (31, bk_R_has_2), (32, [])]
def Y_R_has : Mth := (g_R_has, RR, cd_R_has)
set_option maxRecDepth 20000 in
theorem ok_R_has : okM Y_R_has = true := by decide +kernel
theorem en_R_has {d : Nat} {u : Mem} {Q : Option MV → Mem → Prop} (as : List MV) (hc : cats as ≤ 3) (h : RunB d Y_R_has 0 (argL as 3) [] u Q) : OKm d g_R_has as u Q := OKm.of (Y := Y_R_has) ok_R_has hc h
theorem rb_R_has_0 {d : Nat} {L : List (Option MV)} {st : List MV} {u : Mem} {Q : Option MV → Mem → Prop} (h : go d Y_R_has Q bk_R_has_0 0 L st u) : RunB (d + 1) Y_R_has 0 L st u Q := run_go ok_R_has (by decide) h
theorem rb_R_has_1 {d : Nat} {L : List (Option MV)} {st : List MV} {u : Mem} {Q : Option MV → Mem → Prop} (h : go d Y_R_has Q bk_R_has_1 1 L st u) : RunB (d + 1) Y_R_has 1 L st u Q := run_go ok_R_has (by decide) h
theorem rb_R_has_2 {d : Nat} {L : List (Option MV)} {st : List MV} {u : Mem} {Q : Option MV → Mem → Prop} (h : go d Y_R_has Q bk_R_has_2 2 L st u) : RunB (d + 1) Y_R_has 2 L st u Q := run_go ok_R_has (by decide) h
def bk_R_item_0 : List En := [(.iload_n 1, 1, 1, 0, [], g_0), (.aload_n 0, 1, 0, 0, [], g_0), (.getfield 23, 3, 3, 3, [279], g_0), (.invokestatic 41, 3, 2, 2, [433, 335, 0, 67, 336], g_W_isBelow), (.ifCond .eq 18, 3, 1, 0, [], g_0), (.iload_n 1, 1, 1, 0, [], g_0), (.bipush 60, 2, 60, 0, [], g_0), (.if_icmp .ge 12, 3, 1, 0, [], g_0), (.aload_n 0, 1, 0, 0, [], g_0), (.getfield 9, 3, 3, 0, [273], g_0), (.iload_n 1, 1, 1, 0, [], g_0), (.iaload, 1, 0, 0, [], g_0), (.goto 4, 3, 2, 0, [], g_0)]
def bk_R_item_1 : List En := [(.iconst (-1), 1, 1, 1, [], g_0)]
def bk_R_item_2 : List En := [(.ireturn, 1, 0, 0, [], g_0)]
def cd_R_item : Cd := [(0, bk_R_item_0), (26, bk_R_item_1), (27, bk_R_item_2), (28, [])]
def Y_R_item : Mth := (g_R_item, RR, cd_R_item)
set_option maxRecDepth 20000 in
theorem ok_R_item : okM Y_R_item = true := by decide +kernel
theorem en_R_item {d : Nat} {u : Mem} {Q : Option MV → Mem → Prop} (as : List MV) (hc : cats as ≤ 2) (h : RunB d Y_R_item 0 (argL as 2) [] u Q) : OKm d g_R_item as u Q := OKm.of (Y := Y_R_item) ok_R_item hc h
theorem rb_R_item_0 {d : Nat} {L : List (Option MV)} {st : List MV} {u : Mem} {Q : Option MV → Mem → Prop} (h : go d Y_R_item Q bk_R_item_0 0 L st u) : RunB (d + 1) Y_R_item 0 L st u Q := run_go ok_R_item (by decide) h
theorem rb_R_item_1 {d : Nat} {L : List (Option MV)} {st : List MV} {u : Mem} {Q : Option MV → Mem → Prop} (h : go d Y_R_item Q bk_R_item_1 1 L st u) : RunB (d + 1) Y_R_item 1 L st u Q := run_go ok_R_item (by decide) h
theorem rb_R_item_2 {d : Nat} {L : List (Option MV)} {st : List MV} {u : Mem} {Q : Option MV → Mem → Prop} (h : go d Y_R_item Q bk_R_item_2 2 L st u) : RunB (d + 1) Y_R_item 2 L st u Q := run_go ok_R_item (by decide) h
def bk_R_put_0 : List En := [(.iload_n 1, 1, 1, 0, [], g_0), (.aload_n 0, 1, 0, 0, [], g_0), (.getfield 23, 3, 3, 3, [279], g_0), (.invokestatic 41, 3, 2, 2, [433, 335, 0, 67, 336], g_W_isBelow), (.ifCond .eq 41, 3, 4, 0, [], g_0), (.iload_n 1, 1, 1, 0, [], g_0), (.bipush 60, 2, 60, 0, [], g_0), (.if_icmp .ge 35, 3, 4, 0, [], g_0), (.aload_n 0, 1, 0, 0, [], g_0), (.getfield 9, 3, 3, 0, [273], g_0), (.iload_n 1, 1, 1, 0, [], g_0), (.aload_n 0, 1, 0, 0, [], g_0), (.getfield 19, 3, 3, 2, [277], g_0), (.ifCond .ne 8, 3, 1, 0, [], g_0), (.iload_n 2, 1, 2, 0, [], g_0), (.i2b, 1, 0, 0, [], g_0), (.goto 17, 3, 3, 0, [], g_0)]
def bk_R_put_1 : List En := [(.aload_n 0, 1, 0, 0, [], g_0), (.getfield 19, 3, 3, 2, [277], g_0), (.iconst 1, 1, 1, 0, [], g_0), (.if_icmp .ne 8, 3, 2, 0, [], g_0), (.iload_n 2, 1, 2, 0, [], g_0), (.i2s, 1, 0, 0, [], g_0), (.goto 4, 3, 3, 0, [], g_0)]
def bk_R_put_2 : List En := [(.iload_n 2, 1, 2, 0, [], g_0)]
def bk_R_put_3 : List En := [(.iastore, 1, 0, 0, [], g_0)]
def bk_R_put_4 : List En := [(.return_, 1, 0, 0, [], g_0)]
def cd_R_put : Cd := [(0, bk_R_put_0), (34, bk_R_put_1), (47, bk_R_put_2), (48, bk_R_put_3), (49, bk_R_put_4), (50, [])]
def Y_R_put : Mth := (g_R_put, RR, cd_R_put)
set_option maxRecDepth 20000 in
theorem ok_R_put : okM Y_R_put = true := by decide +kernel
theorem en_R_put {d : Nat} {u : Mem} {Q : Option MV → Mem → Prop} (as : List MV) (hc : cats as ≤ 3) (h : RunB d Y_R_put 0 (argL as 3) [] u Q) : OKm d g_R_put as u Q := OKm.of (Y := Y_R_put) ok_R_put hc h
theorem rb_R_put_0 {d : Nat} {L : List (Option MV)} {st : List MV} {u : Mem} {Q : Option MV → Mem → Prop} (h : go d Y_R_put Q bk_R_put_0 0 L st u) : RunB (d + 1) Y_R_put 0 L st u Q := run_go ok_R_put (by decide) h
theorem rb_R_put_1 {d : Nat} {L : List (Option MV)} {st : List MV} {u : Mem} {Q : Option MV → Mem → Prop} (h : go d Y_R_put Q bk_R_put_1 1 L st u) : RunB (d + 1) Y_R_put 1 L st u Q := run_go ok_R_put (by decide) h
theorem rb_R_put_2 {d : Nat} {L : List (Option MV)} {st : List MV} {u : Mem} {Q : Option MV → Mem → Prop} (h : go d Y_R_put Q bk_R_put_2 2 L st u) : RunB (d + 1) Y_R_put 2 L st u Q := run_go ok_R_put (by decide) h
theorem rb_R_put_3 {d : Nat} {L : List (Option MV)} {st : List MV} {u : Mem} {Q : Option MV → Mem → Prop} (h : go d Y_R_put Q bk_R_put_3 3 L st u) : RunB (d + 1) Y_R_put 3 L st u Q := run_go ok_R_put (by decide) h
theorem rb_R_put_4 {d : Nat} {L : List (Option MV)} {st : List MV} {u : Mem} {Q : Option MV → Mem → Prop} (h : go d Y_R_put Q bk_R_put_4 4 L st u) : RunB (d + 1) Y_R_put 4 L st u Q := run_go ok_R_put (by decide) h
def bk_S_add_0 : List En := [(.aload_n 0, 1, 0, 0, [], g_0), (.getfield 21, 3, 4, 3, [232], g_0), (.bipush 8, 2, 8, 0, [], g_0), (.if_icmp .ge 43, 3, 1, 0, [], g_0), (.aload_n 0, 1, 0, 0, [], g_0), (.getfield 9, 3, 4, 0, [229], g_0), (.aload_n 0, 1, 0, 0, [], g_0), (.getfield 21, 3, 4, 3, [232], g_0), (.iload_n 1, 1, 1, 0, [], g_0), (.iastore, 1, 0, 0, [], g_0), (.aload_n 0, 1, 0, 0, [], g_0), (.getfield 15, 3, 4, 1, [230], g_0), (.aload_n 0, 1, 0, 0, [], g_0), (.getfield 21, 3, 4, 3, [232], g_0), (.iload_n 2, 1, 2, 0, [], g_0), (.iastore, 1, 0, 0, [], g_0), (.aload_n 0, 1, 0, 0, [], g_0), (.getfield 18, 3, 4, 2, [231], g_0), (.aload_n 0, 1, 0, 0, [], g_0), (.getfield 21, 3, 4, 3, [232], g_0), (.iload_n 3, 1, 3, 0, [], g_0), (.iastore, 1, 0, 0, [], g_0), (.aload_n 0, 1, 0, 0, [], g_0), (.dup, 1, 0, 0, [], g_0), (.getfield 21, 3, 4, 3, [232], g_0), (.iconst 1, 1, 1, 0, [], g_0), (.iadd, 1, 0, 0, [], g_0), (.putfield 21, 3, 4, 3, [232], g_0)]
def bk_S_add_1 : List En := [(.return_, 1, 0, 0, [], g_0)]
def cd_S_add : Cd := [(0, bk_S_add_0), (49, bk_S_add_1), (50, [])]
def Y_S_add : Mth := (g_S_add, RS, cd_S_add)
set_option maxRecDepth 20000 in
theorem ok_S_add : okM Y_S_add = true := by decide +kernel
theorem en_S_add {d : Nat} {u : Mem} {Q : Option MV → Mem → Prop} (as : List MV) (hc : cats as ≤ 4) (h : RunB d Y_S_add 0 (argL as 4) [] u Q) : OKm d g_S_add as u Q := OKm.of (Y := Y_S_add) ok_S_add hc h
theorem rb_S_add_0 {d : Nat} {L : List (Option MV)} {st : List MV} {u : Mem} {Q : Option MV → Mem → Prop} (h : go d Y_S_add Q bk_S_add_0 0 L st u) : RunB (d + 1) Y_S_add 0 L st u Q := run_go ok_S_add (by decide) h
theorem rb_S_add_1 {d : Nat} {L : List (Option MV)} {st : List MV} {u : Mem} {Q : Option MV → Mem → Prop} (h : go d Y_S_add Q bk_S_add_1 1 L st u) : RunB (d + 1) Y_S_add 1 L st u Q := run_go ok_S_add (by decide) h
def bk_S_fit_0 : List En := [(.iconst 0, 1, 0, 0, [], g_0), (.istore_n 2, 1, 2, 0, [], g_0)]
def bk_S_fit_1 : List En := [(.iload_n 2, 1, 2, 0, [], g_0), (.aload_n 0, 1, 0, 0, [], g_0), (.getfield 21, 3, 4, 3, [232], g_0), (.if_icmp .ge 43, 3, 3, 0, [], g_0), (.iload_n 2, 1, 2, 0, [], g_0), (.bipush 8, 2, 8, 0, [], g_0), (.if_icmp .ge 37, 3, 3, 0, [], g_0), (.aload_n 1, 1, 1, 0, [], g_0), (.aload_n 0, 1, 0, 0, [], g_0), (.getfield 9, 3, 4, 0, [229], g_0), (.iload_n 2, 1, 2, 0, [], g_0), (.iaload, 1, 0, 0, [], g_0), (.aload_n 0, 1, 0, 0, [], g_0), (.getfield 15, 3, 4, 1, [230], g_0), (.iload_n 2, 1, 2, 0, [], g_0), (.iaload, 1, 0, 0, [], g_0), (.iconst 0, 1, 0, 0, [], g_0), (.invokevirtual 25, 3, 3, 5, [597, 478, 479, 71, 480], g_T_fact), (.aload_n 0, 1, 0, 0, [], g_0), (.getfield 18, 3, 4, 2, [231], g_0), (.iload_n 2, 1, 2, 0, [], g_0), (.iaload, 1, 0, 0, [], g_0), (.if_icmp .eq 5, 3, 2, 0, [], g_0), (.iconst 0, 1, 0, 0, [], g_0), (.ireturn, 1, 0, 1, [], g_0)]
def bk_S_fit_2 : List En := [(.iinc 2 1, 3, 2, 1, [0], g_0), (.goto (-45), 3, 1, 0, [], g_0)]
def bk_S_fit_3 : List En := [(.iconst 1, 1, 1, 0, [], g_0), (.ireturn, 1, 0, 1, [], g_0)]
def cd_S_fit : Cd := [(0, bk_S_fit_0), (2, bk_S_fit_1), (44, bk_S_fit_2), (50, bk_S_fit_3), (52, [])]
def Y_S_fit : Mth := (g_S_fit, RS, cd_S_fit)
set_option maxRecDepth 20000 in
theorem ok_S_fit : okM Y_S_fit = true := by decide +kernel
theorem en_S_fit {d : Nat} {u : Mem} {Q : Option MV → Mem → Prop} (as : List MV) (hc : cats as ≤ 3) (h : RunB d Y_S_fit 0 (argL as 3) [] u Q) : OKm d g_S_fit as u Q := OKm.of (Y := Y_S_fit) ok_S_fit hc h
theorem rb_S_fit_0 {d : Nat} {L : List (Option MV)} {st : List MV} {u : Mem} {Q : Option MV → Mem → Prop} (h : go d Y_S_fit Q bk_S_fit_0 0 L st u) : RunB (d + 1) Y_S_fit 0 L st u Q := run_go ok_S_fit (by decide) h
theorem rb_S_fit_1 {d : Nat} {L : List (Option MV)} {st : List MV} {u : Mem} {Q : Option MV → Mem → Prop} (h : go d Y_S_fit Q bk_S_fit_1 1 L st u) : RunB (d + 1) Y_S_fit 1 L st u Q := run_go ok_S_fit (by decide) h
theorem rb_S_fit_2 {d : Nat} {L : List (Option MV)} {st : List MV} {u : Mem} {Q : Option MV → Mem → Prop} (h : go d Y_S_fit Q bk_S_fit_2 2 L st u) : RunB (d + 1) Y_S_fit 2 L st u Q := run_go ok_S_fit (by decide) h
theorem rb_S_fit_3 {d : Nat} {L : List (Option MV)} {st : List MV} {u : Mem} {Q : Option MV → Mem → Prop} (h : go d Y_S_fit Q bk_S_fit_3 3 L st u) : RunB (d + 1) Y_S_fit 3 L st u Q := run_go ok_S_fit (by decide) h
def bk_T_fact_0 : List En := [(.iload_n 1, 1, 1, 0, [], g_0), (.bipush 20, 2, 20, 0, [], g_0), (.invokestatic 26, 3, 2, 2, [481, 335, 0, 67, 336], g_W_isBelow), (.ifCond .eq 21, 3, 1, 0, [], g_0), (.iload_n 2, 1, 2, 0, [], g_0), (.bipush 6, 2, 6, 0, [], g_0), (.invokestatic 26, 3, 2, 2, [481, 335, 0, 67, 336], g_W_isBelow), (.ifCond .eq 12, 3, 1, 0, [], g_0), (.iload_n 3, 1, 3, 0, [], g_0), (.bipush 6, 2, 6, 0, [], g_0), (.invokestatic 26, 3, 2, 2, [481, 335, 0, 67, 336], g_W_isBelow), (.ifCond .ne 5, 3, 2, 0, [], g_0)]
def bk_T_fact_1 : List En := [(.iconst (-1), 1, 1, 1, [], g_0), (.ireturn, 1, 0, 0, [], g_0)]
def bk_T_fact_2 : List En := [(.aload_n 0, 1, 0, 0, [], g_0), (.getfield 18, 3, 5, 2, [213], g_0), (.iload_n 1, 1, 1, 0, [], g_0), (.bipush 6, 2, 6, 0, [], g_0), (.imul, 1, 0, 0, [], g_0), (.iload_n 2, 1, 2, 0, [], g_0), (.iadd, 1, 0, 0, [], g_0), (.bipush 6, 2, 6, 0, [], g_0), (.imul, 1, 0, 0, [], g_0), (.iload_n 3, 1, 3, 0, [], g_0), (.iadd, 1, 0, 0, [], g_0), (.iaload, 1, 0, 0, [], g_0), (.ireturn, 1, 0, 0, [], g_0)]
def cd_T_fact : Cd := [(0, bk_T_fact_0), (27, bk_T_fact_1), (29, bk_T_fact_2), (46, [])]
def Y_T_fact : Mth := (g_T_fact, RT, cd_T_fact)
set_option maxRecDepth 20000 in
theorem ok_T_fact : okM Y_T_fact = true := by decide +kernel
theorem en_T_fact {d : Nat} {u : Mem} {Q : Option MV → Mem → Prop} (as : List MV) (hc : cats as ≤ 4) (h : RunB d Y_T_fact 0 (argL as 4) [] u Q) : OKm d g_T_fact as u Q := OKm.of (Y := Y_T_fact) ok_T_fact hc h
theorem rb_T_fact_0 {d : Nat} {L : List (Option MV)} {st : List MV} {u : Mem} {Q : Option MV → Mem → Prop} (h : go d Y_T_fact Q bk_T_fact_0 0 L st u) : RunB (d + 1) Y_T_fact 0 L st u Q := run_go ok_T_fact (by decide) h
theorem rb_T_fact_1 {d : Nat} {L : List (Option MV)} {st : List MV} {u : Mem} {Q : Option MV → Mem → Prop} (h : go d Y_T_fact Q bk_T_fact_1 1 L st u) : RunB (d + 1) Y_T_fact 1 L st u Q := run_go ok_T_fact (by decide) h
theorem rb_T_fact_2 {d : Nat} {L : List (Option MV)} {st : List MV} {u : Mem} {Q : Option MV → Mem → Prop} (h : go d Y_T_fact Q bk_T_fact_2 2 L st u) : RunB (d + 1) Y_T_fact 2 L st u Q := run_go ok_T_fact (by decide) h
def bk_T_playDays_0 : List En := [(.aload_n 0, 1, 0, 0, [], g_0), (.getfield 12, 3, 5, 1, [211], g_0), (.invokevirtual 30, 3, 0, 1, [447, 448, 449, 72, 450], g_P_clear), (.iconst 0, 1, 0, 0, [], g_0), (.istore_n 3, 1, 3, 0, [], g_0)]
def bk_T_playDays_1 : List En := [(.iload_n 3, 1, 3, 0, [], g_0), (.iload_n 2, 1, 2, 0, [], g_0), (.if_icmp .ge 29, 3, 2, 0, [], g_0), (.iload_n 3, 1, 3, 0, [], g_0), (.aload_n 1, 1, 1, 0, [], g_0), (.arraylength, 1, 0, 0, [], g_0), (.if_icmp .ge 23, 3, 2, 0, [], g_0), (.iload_n 3, 1, 3, 0, [], g_0), (.bipush 20, 2, 20, 0, [], g_0), (.if_icmp .ge 17, 3, 2, 0, [], g_0), (.aload_n 0, 1, 0, 0, [], g_0), (.iload_n 3, 1, 3, 0, [], g_0), (.aload_n 1, 1, 1, 0, [], g_0), (.iload_n 3, 1, 3, 0, [], g_0), (.iaload, 1, 0, 0, [], g_0), (.invokevirtual 33, 3, 2, 5, [452, 453, 454, 71, 455], g_T_play), (.iinc 3 1, 3, 3, 1, [0], g_0), (.goto (-28), 3, 1, 0, [], g_0)]
def bk_T_playDays_2 : List En := [(.return_, 1, 0, 0, [], g_0)]
def cd_T_playDays : Cd := [(0, bk_T_playDays_0), (9, bk_T_playDays_1), (40, bk_T_playDays_2), (41, [])]
def Y_T_playDays : Mth := (g_T_playDays, RT, cd_T_playDays)
set_option maxRecDepth 20000 in
theorem ok_T_playDays : okM Y_T_playDays = true := by decide +kernel
theorem en_T_playDays {d : Nat} {u : Mem} {Q : Option MV → Mem → Prop} (as : List MV) (hc : cats as ≤ 4) (h : RunB d Y_T_playDays 0 (argL as 4) [] u Q) : OKm d g_T_playDays as u Q := OKm.of (Y := Y_T_playDays) ok_T_playDays hc h
theorem rb_T_playDays_0 {d : Nat} {L : List (Option MV)} {st : List MV} {u : Mem} {Q : Option MV → Mem → Prop} (h : go d Y_T_playDays Q bk_T_playDays_0 0 L st u) : RunB (d + 1) Y_T_playDays 0 L st u Q := run_go ok_T_playDays (by decide) h
theorem rb_T_playDays_1 {d : Nat} {L : List (Option MV)} {st : List MV} {u : Mem} {Q : Option MV → Mem → Prop} (h : go d Y_T_playDays Q bk_T_playDays_1 1 L st u) : RunB (d + 1) Y_T_playDays 1 L st u Q := run_go ok_T_playDays (by decide) h
theorem rb_T_playDays_2 {d : Nat} {L : List (Option MV)} {st : List MV} {u : Mem} {Q : Option MV → Mem → Prop} (h : go d Y_T_playDays Q bk_T_playDays_2 2 L st u) : RunB (d + 1) Y_T_playDays 2 L st u Q := run_go ok_T_playDays (by decide) h
def bk_T_firstObeyed_0 : List En := [(.aload_n 0, 1, 0, 0, [], g_0), (.getfield 12, 3, 5, 1, [211], g_0), (.invokevirtual 30, 3, 0, 1, [447, 448, 449, 72, 450], g_P_clear), (.aload_n 0, 1, 0, 0, [], g_0), (.getfield 22, 3, 5, 0, [210], g_0), (.getfield 37, 3, 2, 7, [156], g_0), (.ifCond .ne 5, 3, 1, 0, [], g_0), (.iconst (-1), 1, 1, 1, [], g_0), (.ireturn, 1, 0, 0, [], g_0)]
def bk_T_firstObeyed_1 : List En := [(.iconst 0, 1, 0, 0, [], g_0), (.istore_n 3, 1, 3, 0, [], g_0)]
def bk_T_firstObeyed_2 : List En := [(.iload_n 3, 1, 3, 0, [], g_0), (.iload_n 2, 1, 2, 0, [], g_0), (.if_icmp .ge 39, 3, 4, 0, [], g_0), (.iload_n 3, 1, 3, 0, [], g_0), (.aload_n 1, 1, 1, 0, [], g_0), (.arraylength, 1, 0, 0, [], g_0), (.if_icmp .ge 33, 3, 4, 0, [], g_0), (.iload_n 3, 1, 3, 0, [], g_0), (.bipush 20, 2, 20, 0, [], g_0), (.if_icmp .ge 27, 3, 4, 0, [], g_0), (.aload_n 0, 1, 0, 0, [], g_0), (.iload_n 3, 1, 3, 0, [], g_0), (.aload_n 1, 1, 1, 0, [], g_0), (.iload_n 3, 1, 3, 0, [], g_0), (.iaload, 1, 0, 0, [], g_0), (.invokevirtual 33, 3, 2, 5, [452, 453, 454, 71, 455], g_T_play), (.aload_n 0, 1, 0, 0, [], g_0), (.iload_n 3, 1, 3, 0, [], g_0), (.invokevirtual 43, 3, 1, 5, [499, 487, 488, 71, 489], g_T_obeys), (.ifCond .eq 5, 3, 3, 0, [], g_0), (.iload_n 3, 1, 3, 0, [], g_0), (.ireturn, 1, 0, 0, [], g_0)]
def bk_T_firstObeyed_3 : List En := [(.iinc 3 1, 3, 3, 1, [0], g_0), (.goto (-38), 3, 2, 0, [], g_0)]
def bk_T_firstObeyed_4 : List En := [(.iconst (-1), 1, 1, 1, [], g_0), (.ireturn, 1, 0, 0, [], g_0)]
def cd_T_firstObeyed : Cd := [(0, bk_T_firstObeyed_0), (19, bk_T_firstObeyed_1), (21, bk_T_firstObeyed_2), (56, bk_T_firstObeyed_3), (62, bk_T_firstObeyed_4), (64, [])]
def Y_T_firstObeyed : Mth := (g_T_firstObeyed, RT, cd_T_firstObeyed)
set_option maxRecDepth 20000 in
theorem ok_T_firstObeyed : okM Y_T_firstObeyed = true := by decide +kernel
theorem en_T_firstObeyed {d : Nat} {u : Mem} {Q : Option MV → Mem → Prop} (as : List MV) (hc : cats as ≤ 4) (h : RunB d Y_T_firstObeyed 0 (argL as 4) [] u Q) : OKm d g_T_firstObeyed as u Q := OKm.of (Y := Y_T_firstObeyed) ok_T_firstObeyed hc h
theorem rb_T_firstObeyed_0 {d : Nat} {L : List (Option MV)} {st : List MV} {u : Mem} {Q : Option MV → Mem → Prop} (h : go d Y_T_firstObeyed Q bk_T_firstObeyed_0 0 L st u) : RunB (d + 1) Y_T_firstObeyed 0 L st u Q := run_go ok_T_firstObeyed (by decide) h
theorem rb_T_firstObeyed_1 {d : Nat} {L : List (Option MV)} {st : List MV} {u : Mem} {Q : Option MV → Mem → Prop} (h : go d Y_T_firstObeyed Q bk_T_firstObeyed_1 1 L st u) : RunB (d + 1) Y_T_firstObeyed 1 L st u Q := run_go ok_T_firstObeyed (by decide) h
theorem rb_T_firstObeyed_2 {d : Nat} {L : List (Option MV)} {st : List MV} {u : Mem} {Q : Option MV → Mem → Prop} (h : go d Y_T_firstObeyed Q bk_T_firstObeyed_2 2 L st u) : RunB (d + 1) Y_T_firstObeyed 2 L st u Q := run_go ok_T_firstObeyed (by decide) h
theorem rb_T_firstObeyed_3 {d : Nat} {L : List (Option MV)} {st : List MV} {u : Mem} {Q : Option MV → Mem → Prop} (h : go d Y_T_firstObeyed Q bk_T_firstObeyed_3 3 L st u) : RunB (d + 1) Y_T_firstObeyed 3 L st u Q := run_go ok_T_firstObeyed (by decide) h
theorem rb_T_firstObeyed_4 {d : Nat} {L : List (Option MV)} {st : List MV} {u : Mem} {Q : Option MV → Mem → Prop} (h : go d Y_T_firstObeyed Q bk_T_firstObeyed_4 4 L st u) : RunB (d + 1) Y_T_firstObeyed 4 L st u Q := run_go ok_T_firstObeyed (by decide) h
def bk_T_play_0 : List En := [(.iconst 0, 1, 0, 0, [], g_0), (.istore_n 3, 1, 3, 0, [], g_0)]
def bk_T_play_1 : List En := [(.iload_n 3, 1, 3, 0, [], g_0), (.aload_n 0, 1, 0, 0, [], g_0), (.getfield 22, 3, 5, 0, [210], g_0), (.getfield 47, 3, 2, 8, [159], g_0), (.if_icmp .ge 61, 3, 3, 0, [], g_0), (.iload_n 3, 1, 3, 0, [], g_0), (.aload_n 0, 1, 0, 0, [], g_0), (.getfield 22, 3, 5, 0, [210], g_0), (.getfield 50, 3, 2, 3, [147], g_0), (.arraylength, 1, 0, 0, [], g_0), (.if_icmp .ge 49, 3, 3, 0, [], g_0), (.aload_n 0, 1, 0, 0, [], g_0), (.getfield 22, 3, 5, 0, [210], g_0), (.getfield 50, 3, 2, 3, [147], g_0), (.iload_n 3, 1, 3, 0, [], g_0), (.iaload, 1, 0, 0, [], g_0), (.iload_n 1, 1, 1, 0, [], g_0), (.if_icmp .ne 30, 3, 2, 0, [], g_0), (.iload_n 3, 1, 3, 0, [], g_0), (.aload_n 0, 1, 0, 0, [], g_0), (.getfield 22, 3, 5, 0, [210], g_0), (.getfield 53, 3, 2, 9, [162], g_0), (.if_icmp .eq 19, 3, 2, 0, [], g_0), (.aload_n 0, 1, 0, 0, [], g_0), (.getfield 12, 3, 5, 1, [211], g_0), (.aload_n 0, 1, 0, 0, [], g_0), (.getfield 22, 3, 5, 0, [210], g_0), (.getfield 56, 3, 2, 4, [149], g_0), (.iload_n 3, 1, 3, 0, [], g_0), (.iaload, 1, 0, 0, [], g_0), (.invokevirtual 59, 3, 1, 1, [456, 457, 458, 72, 459], g_P_pull)]
def bk_T_play_2 : List En := [(.iinc 3 1, 3, 3, 1, [0], g_0), (.goto (-66), 3, 1, 0, [], g_0)]
def bk_T_play_3 : List En := [(.iconst 0, 1, 0, 0, [], g_0), (.istore_n 3, 1, 3, 0, [], g_0)]
def bk_T_play_4 : List En := [(.iload_n 3, 1, 3, 0, [], g_0), (.aload_n 0, 1, 0, 0, [], g_0), (.getfield 22, 3, 5, 0, [210], g_0), (.getfield 63, 3, 2, 5, [151], g_0), (.if_icmp .ge 48, 3, 6, 0, [], g_0), (.iload_n 3, 1, 3, 0, [], g_0), (.bipush 8, 2, 8, 0, [], g_0), (.if_icmp .ge 42, 3, 6, 0, [], g_0), (.aload_n 0, 1, 0, 0, [], g_0), (.getfield 22, 3, 5, 0, [210], g_0), (.getfield 66, 3, 2, 0, [139], g_0), (.iload_n 3, 1, 3, 0, [], g_0), (.aaload, 1, 0, 0, [], g_0), (.getfield 70, 3, 0, 1, [106], g_0), (.iload_n 1, 1, 1, 0, [], g_0), (.if_icmp .ne 20, 3, 5, 0, [], g_0), (.aload_n 0, 1, 0, 0, [], g_0), (.getfield 12, 3, 5, 1, [211], g_0), (.iload_n 3, 1, 3, 0, [], g_0), (.aload_n 0, 1, 0, 0, [], g_0), (.getfield 22, 3, 5, 0, [210], g_0), (.getfield 66, 3, 2, 0, [139], g_0), (.iload_n 3, 1, 3, 0, [], g_0), (.aaload, 1, 0, 0, [], g_0), (.invokevirtual 75, 3, 2, 1, [460, 461, 462, 72, 463], g_P_put)]
def bk_T_play_5 : List En := [(.iinc 3 1, 3, 3, 1, [0], g_0), (.goto (-53), 3, 4, 0, [], g_0)]
def bk_T_play_6 : List En := [(.iconst 0, 1, 0, 0, [], g_0), (.istore_n 3, 1, 3, 0, [], g_0)]
def bk_T_play_7 : List En := [(.iload_n 3, 1, 3, 0, [], g_0), (.bipush 6, 2, 6, 0, [], g_0), (.if_icmp .ge 21, 3, 8, 0, [], g_0), (.aload_n 0, 1, 0, 0, [], g_0), (.iload_n 1, 1, 1, 0, [], g_0), (.iload_n 3, 1, 3, 0, [], g_0), (.aload_n 0, 1, 0, 0, [], g_0), (.iload_n 3, 1, 3, 0, [], g_0), (.iload_n 2, 1, 2, 0, [], g_0), (.invokevirtual 79, 3, 2, 5, [464, 466, 4, 71, 467], g_T_layerSeen), (.invokevirtual 83, 3, 3, 5, [468, 470, 5, 71, 471], g_T_keepFacts), (.iinc 3 1, 3, 3, 1, [0], g_0), (.goto (-21), 3, 7, 0, [], g_0)]
def bk_T_play_8 : List En := [(.iload_n 2, 1, 2, 0, [], g_0), (.ifCond .ne 7, 3, 9, 0, [], g_0), (.aload_n 0, 1, 0, 0, [], g_0), (.invokevirtual 87, 3, 0, 5, [472, 474, 6, 71, 475], g_T_bleach)]
def bk_T_play_9 : List En := [(.return_, 1, 0, 0, [], g_0)]
def cd_T_play : Cd := [(0, bk_T_play_0), (2, bk_T_play_1), (65, bk_T_play_2), (71, bk_T_play_3), (73, bk_T_play_4), (123, bk_T_play_5), (129, bk_T_play_6), (131, bk_T_play_7), (155, bk_T_play_8), (163, bk_T_play_9), (164, [])]
def Y_T_play : Mth := (g_T_play, RT, cd_T_play)
set_option maxRecDepth 20000 in
theorem ok_T_play : okM Y_T_play = true := by decide +kernel
theorem en_T_play {d : Nat} {u : Mem} {Q : Option MV → Mem → Prop} (as : List MV) (hc : cats as ≤ 4) (h : RunB d Y_T_play 0 (argL as 4) [] u Q) : OKm d g_T_play as u Q := OKm.of (Y := Y_T_play) ok_T_play hc h
theorem rb_T_play_0 {d : Nat} {L : List (Option MV)} {st : List MV} {u : Mem} {Q : Option MV → Mem → Prop} (h : go d Y_T_play Q bk_T_play_0 0 L st u) : RunB (d + 1) Y_T_play 0 L st u Q := run_go ok_T_play (by decide) h
theorem rb_T_play_1 {d : Nat} {L : List (Option MV)} {st : List MV} {u : Mem} {Q : Option MV → Mem → Prop} (h : go d Y_T_play Q bk_T_play_1 1 L st u) : RunB (d + 1) Y_T_play 1 L st u Q := run_go ok_T_play (by decide) h
theorem rb_T_play_2 {d : Nat} {L : List (Option MV)} {st : List MV} {u : Mem} {Q : Option MV → Mem → Prop} (h : go d Y_T_play Q bk_T_play_2 2 L st u) : RunB (d + 1) Y_T_play 2 L st u Q := run_go ok_T_play (by decide) h
theorem rb_T_play_3 {d : Nat} {L : List (Option MV)} {st : List MV} {u : Mem} {Q : Option MV → Mem → Prop} (h : go d Y_T_play Q bk_T_play_3 3 L st u) : RunB (d + 1) Y_T_play 3 L st u Q := run_go ok_T_play (by decide) h
theorem rb_T_play_4 {d : Nat} {L : List (Option MV)} {st : List MV} {u : Mem} {Q : Option MV → Mem → Prop} (h : go d Y_T_play Q bk_T_play_4 4 L st u) : RunB (d + 1) Y_T_play 4 L st u Q := run_go ok_T_play (by decide) h
theorem rb_T_play_5 {d : Nat} {L : List (Option MV)} {st : List MV} {u : Mem} {Q : Option MV → Mem → Prop} (h : go d Y_T_play Q bk_T_play_5 5 L st u) : RunB (d + 1) Y_T_play 5 L st u Q := run_go ok_T_play (by decide) h
theorem rb_T_play_6 {d : Nat} {L : List (Option MV)} {st : List MV} {u : Mem} {Q : Option MV → Mem → Prop} (h : go d Y_T_play Q bk_T_play_6 6 L st u) : RunB (d + 1) Y_T_play 6 L st u Q := run_go ok_T_play (by decide) h
theorem rb_T_play_7 {d : Nat} {L : List (Option MV)} {st : List MV} {u : Mem} {Q : Option MV → Mem → Prop} (h : go d Y_T_play Q bk_T_play_7 7 L st u) : RunB (d + 1) Y_T_play 7 L st u Q := run_go ok_T_play (by decide) h
theorem rb_T_play_8 {d : Nat} {L : List (Option MV)} {st : List MV} {u : Mem} {Q : Option MV → Mem → Prop} (h : go d Y_T_play Q bk_T_play_8 8 L st u) : RunB (d + 1) Y_T_play 8 L st u Q := run_go ok_T_play (by decide) h
theorem rb_T_play_9 {d : Nat} {L : List (Option MV)} {st : List MV} {u : Mem} {Q : Option MV → Mem → Prop} (h : go d Y_T_play Q bk_T_play_9 9 L st u) : RunB (d + 1) Y_T_play 9 L st u Q := run_go ok_T_play (by decide) h
def bk_T_layerSeen_0 : List En := [(.iload_n 2, 1, 2, 0, [], g_0), (.istore_n 3, 1, 3, 0, [], g_0), (.aload_n 0, 1, 0, 0, [], g_0), (.getfield 12, 3, 5, 1, [211], g_0), (.getfield 90, 3, 1, 0, [198], g_0), (.iload_n 1, 1, 1, 0, [], g_0), (.iaload, 1, 0, 0, [], g_0), (.iconst 1, 1, 1, 0, [], g_0), (.isub, 1, 0, 0, [], g_0), (.istore 4, 2, 4, 0, [], g_0)]
def bk_T_layerSeen_1 : List En := [(.iload 4, 2, 4, 0, [], g_0), (.ifCond .le 71, 3, 5, 0, [], g_0), (.aload_n 0, 1, 0, 0, [], g_0), (.getfield 12, 3, 5, 1, [211], g_0), (.getfield 93, 3, 1, 1, [200], g_0), (.iload_n 1, 1, 1, 0, [], g_0), (.bipush 8, 2, 8, 0, [], g_0), (.imul, 1, 0, 0, [], g_0), (.iload 4, 2, 4, 0, [], g_0), (.iadd, 1, 0, 0, [], g_0), (.iaload, 1, 0, 0, [], g_0), (.istore 5, 2, 5, 0, [], g_0), (.iload 5, 2, 5, 0, [], g_0), (.ifCond .lt 26, 3, 2, 0, [], g_0), (.iload 5, 2, 5, 0, [], g_0), (.bipush 8, 2, 8, 0, [], g_0), (.if_icmp .ge 19, 3, 2, 0, [], g_0), (.aload_n 0, 1, 0, 0, [], g_0), (.getfield 22, 3, 5, 0, [210], g_0), (.getfield 66, 3, 2, 0, [139], g_0), (.iload 5, 2, 5, 0, [], g_0), (.aaload, 1, 0, 0, [], g_0), (.getfield 96, 3, 0, 4, [116], g_0), (.goto 4, 3, 3, 0, [], g_0)]
def bk_T_layerSeen_2 : List En := [(.iconst 0, 1, 0, 0, [], g_0)]
def bk_T_layerSeen_3 : List En := [(.istore 6, 2, 6, 0, [], g_0), (.iload_n 3, 1, 3, 0, [], g_0), (.iload 6, 2, 6, 0, [], g_0), (.if_icmp .ge 6, 3, 4, 0, [], g_0), (.iload 4, 2, 4, 0, [], g_0), (.ireturn, 1, 0, 0, [], g_0)]
def bk_T_layerSeen_4 : List En := [(.iload_n 3, 1, 3, 0, [], g_0), (.iload 6, 2, 6, 0, [], g_0), (.isub, 1, 0, 0, [], g_0), (.istore_n 3, 1, 3, 0, [], g_0), (.iinc 4 (-1), 3, 4, 1, [1], g_0), (.goto (-70), 3, 1, 0, [], g_0)]
def bk_T_layerSeen_5 : List En := [(.aload_n 0, 1, 0, 0, [], g_0), (.getfield 12, 3, 5, 1, [211], g_0), (.getfield 90, 3, 1, 0, [198], g_0), (.iload_n 1, 1, 1, 0, [], g_0), (.iaload, 1, 0, 0, [], g_0), (.ifCond .le 7, 3, 6, 0, [], g_0), (.iconst 0, 1, 0, 0, [], g_0), (.goto 4, 3, 7, 0, [], g_0)]
def bk_T_layerSeen_6 : List En := [(.iconst (-1), 1, 1, 1, [], g_0)]
def bk_T_layerSeen_7 : List En := [(.ireturn, 1, 0, 0, [], g_0)]
def cd_T_layerSeen : Cd := [(0, bk_T_layerSeen_0), (15, bk_T_layerSeen_1), (65, bk_T_layerSeen_2), (66, bk_T_layerSeen_3), (77, bk_T_layerSeen_4), (88, bk_T_layerSeen_5), (104, bk_T_layerSeen_6), (105, bk_T_layerSeen_7), (106, [])]
def Y_T_layerSeen : Mth := (g_T_layerSeen, RT, cd_T_layerSeen)
set_option maxRecDepth 20000 in
theorem ok_T_layerSeen : okM Y_T_layerSeen = true := by decide +kernel
theorem en_T_layerSeen {d : Nat} {u : Mem} {Q : Option MV → Mem → Prop} (as : List MV) (hc : cats as ≤ 7) (h : RunB d Y_T_layerSeen 0 (argL as 7) [] u Q) : OKm d g_T_layerSeen as u Q := OKm.of (Y := Y_T_layerSeen) ok_T_layerSeen hc h
theorem rb_T_layerSeen_0 {d : Nat} {L : List (Option MV)} {st : List MV} {u : Mem} {Q : Option MV → Mem → Prop} (h : go d Y_T_layerSeen Q bk_T_layerSeen_0 0 L st u) : RunB (d + 1) Y_T_layerSeen 0 L st u Q := run_go ok_T_layerSeen (by decide) h
theorem rb_T_layerSeen_1 {d : Nat} {L : List (Option MV)} {st : List MV} {u : Mem} {Q : Option MV → Mem → Prop} (h : go d Y_T_layerSeen Q bk_T_layerSeen_1 1 L st u) : RunB (d + 1) Y_T_layerSeen 1 L st u Q := run_go ok_T_layerSeen (by decide) h
theorem rb_T_layerSeen_2 {d : Nat} {L : List (Option MV)} {st : List MV} {u : Mem} {Q : Option MV → Mem → Prop} (h : go d Y_T_layerSeen Q bk_T_layerSeen_2 2 L st u) : RunB (d + 1) Y_T_layerSeen 2 L st u Q := run_go ok_T_layerSeen (by decide) h
theorem rb_T_layerSeen_3 {d : Nat} {L : List (Option MV)} {st : List MV} {u : Mem} {Q : Option MV → Mem → Prop} (h : go d Y_T_layerSeen Q bk_T_layerSeen_3 3 L st u) : RunB (d + 1) Y_T_layerSeen 3 L st u Q := run_go ok_T_layerSeen (by decide) h
theorem rb_T_layerSeen_4 {d : Nat} {L : List (Option MV)} {st : List MV} {u : Mem} {Q : Option MV → Mem → Prop} (h : go d Y_T_layerSeen Q bk_T_layerSeen_4 4 L st u) : RunB (d + 1) Y_T_layerSeen 4 L st u Q := run_go ok_T_layerSeen (by decide) h
theorem rb_T_layerSeen_5 {d : Nat} {L : List (Option MV)} {st : List MV} {u : Mem} {Q : Option MV → Mem → Prop} (h : go d Y_T_layerSeen Q bk_T_layerSeen_5 5 L st u) : RunB (d + 1) Y_T_layerSeen 5 L st u Q := run_go ok_T_layerSeen (by decide) h
theorem rb_T_layerSeen_6 {d : Nat} {L : List (Option MV)} {st : List MV} {u : Mem} {Q : Option MV → Mem → Prop} (h : go d Y_T_layerSeen Q bk_T_layerSeen_6 6 L st u) : RunB (d + 1) Y_T_layerSeen 6 L st u Q := run_go ok_T_layerSeen (by decide) h
theorem rb_T_layerSeen_7 {d : Nat} {L : List (Option MV)} {st : List MV} {u : Mem} {Q : Option MV → Mem → Prop} (h : go d Y_T_layerSeen Q bk_T_layerSeen_7 7 L st u) : RunB (d + 1) Y_T_layerSeen 7 L st u Q := run_go ok_T_layerSeen (by decide) h
def bk_T_keepFacts_0 : List En := [(.iload_n 1, 1, 1, 0, [], g_0), (.bipush 6, 2, 6, 0, [], g_0), (.imul, 1, 0, 0, [], g_0), (.iload_n 2, 1, 2, 0, [], g_0), (.iadd, 1, 0, 0, [], g_0), (.bipush 6, 2, 6, 0, [], g_0), (.imul, 1, 0, 0, [], g_0), (.istore 4, 2, 4, 0, [], g_0), (.iload 4, 2, 4, 0, [], g_0), (.ifCond .lt 16, 3, 1, 0, [], g_0), (.iload 4, 2, 4, 0, [], g_0), (.bipush 6, 2, 6, 0, [], g_0), (.iadd, 1, 0, 0, [], g_0), (.aload_n 0, 1, 0, 0, [], g_0), (.getfield 18, 3, 5, 2, [213], g_0), (.arraylength, 1, 0, 0, [], g_0), (.if_icmp .le 4, 3, 2, 0, [], g_0)]
def bk_T_keepFacts_1 : List En := [(.return_, 1, 0, 0, [], g_0)]
def bk_T_keepFacts_2 : List En := [(.aload_n 0, 1, 0, 0, [], g_0), (.getfield 12, 3, 5, 1, [211], g_0), (.getfield 90, 3, 1, 0, [198], g_0), (.iload_n 2, 1, 2, 0, [], g_0), (.iaload, 1, 0, 0, [], g_0), (.istore 5, 2, 5, 0, [], g_0), (.iconst 0, 1, 0, 0, [], g_0), (.istore 6, 2, 6, 0, [], g_0), (.iconst 0, 1, 0, 0, [], g_0), (.istore 7, 2, 7, 0, [], g_0)]
def bk_T_keepFacts_3 : List En := [(.iload 7, 2, 7, 0, [], g_0), (.iload 5, 2, 5, 0, [], g_0), (.if_icmp .ge 60, 3, 6, 0, [], g_0), (.aload_n 0, 1, 0, 0, [], g_0), (.getfield 12, 3, 5, 1, [211], g_0), (.getfield 93, 3, 1, 1, [200], g_0), (.iload_n 2, 1, 2, 0, [], g_0), (.bipush 8, 2, 8, 0, [], g_0), (.imul, 1, 0, 0, [], g_0), (.iload 7, 2, 7, 0, [], g_0), (.iadd, 1, 0, 0, [], g_0), (.iaload, 1, 0, 0, [], g_0), (.istore 8, 2, 8, 0, [], g_0), (.iload 6, 2, 6, 0, [], g_0), (.iload 8, 2, 8, 0, [], g_0), (.ifCond .lt 26, 3, 4, 0, [], g_0), (.iload 8, 2, 8, 0, [], g_0), (.bipush 8, 2, 8, 0, [], g_0), (.if_icmp .ge 19, 3, 4, 0, [], g_0), (.aload_n 0, 1, 0, 0, [], g_0), (.getfield 22, 3, 5, 0, [210], g_0), (.getfield 66, 3, 2, 0, [139], g_0), (.iload 8, 2, 8, 0, [], g_0), (.aaload, 1, 0, 0, [], g_0), (.getfield 96, 3, 0, 4, [116], g_0), (.goto 4, 3, 5, 0, [], g_0)]
def bk_T_keepFacts_4 : List En := [(.iconst 0, 1, 0, 0, [], g_0)]
def bk_T_keepFacts_5 : List En := [(.iadd, 1, 0, 0, [], g_0), (.istore 6, 2, 6, 0, [], g_0), (.iinc 7 1, 3, 7, 1, [0], g_0), (.goto (-61), 3, 3, 0, [], g_0)]
def bk_T_keepFacts_6 : List En := [(.aload_n 0, 1, 0, 0, [], g_0), (.getfield 18, 3, 5, 2, [213], g_0), (.iload 4, 2, 4, 0, [], g_0), (.iconst 3, 1, 3, 0, [], g_0), (.iadd, 1, 0, 0, [], g_0), (.iload 5, 2, 5, 0, [], g_0), (.iastore, 1, 0, 0, [], g_0), (.aload_n 0, 1, 0, 0, [], g_0), (.getfield 18, 3, 5, 2, [213], g_0), (.iload 4, 2, 4, 0, [], g_0), (.iconst 4, 1, 4, 0, [], g_0), (.iadd, 1, 0, 0, [], g_0), (.iload 6, 2, 6, 0, [], g_0), (.iastore, 1, 0, 0, [], g_0), (.aload_n 0, 1, 0, 0, [], g_0), (.getfield 18, 3, 5, 2, [213], g_0), (.iload 4, 2, 4, 0, [], g_0), (.iconst 0, 1, 0, 0, [], g_0), (.iadd, 1, 0, 0, [], g_0), (.iconst (-1), 1, 1, 1, [], g_0), (.iastore, 1, 0, 0, [], g_0), (.aload_n 0, 1, 0, 0, [], g_0), (.getfield 18, 3, 5, 2, [213], g_0), (.iload 4, 2, 4, 0, [], g_0), (.iconst 1, 1, 1, 0, [], g_0), (.iadd, 1, 0, 0, [], g_0), (.iconst (-1), 1, 1, 1, [], g_0), (.iastore, 1, 0, 0, [], g_0), (.aload_n 0, 1, 0, 0, [], g_0), (.getfield 18, 3, 5, 2, [213], g_0), (.iload 4, 2, 4, 0, [], g_0), (.iconst 2, 1, 2, 0, [], g_0), (.iadd, 1, 0, 0, [], g_0), (.iconst 0, 1, 0, 0, [], g_0), (.iastore, 1, 0, 0, [], g_0), (.aload_n 0, 1, 0, 0, [], g_0), (.getfield 18, 3, 5, 2, [213], g_0), (.iload 4, 2, 4, 0, [], g_0), (.iconst 5, 1, 5, 0, [], g_0), (.iadd, 1, 0, 0, [], g_0), (.iconst 0, 1, 0, 0, [], g_0), (.iastore, 1, 0, 0, [], g_0), (.iload_n 3, 1, 3, 0, [], g_0), (.ifCond .lt 153, 3, 9, 0, [], g_0), (.iload_n 3, 1, 3, 0, [], g_0), (.iload 5, 2, 5, 0, [], g_0), (.if_icmp .ge 147, 3, 9, 0, [], g_0), (.aload_n 0, 1, 0, 0, [], g_0), (.getfield 12, 3, 5, 1, [211], g_0), (.getfield 93, 3, 1, 1, [200], g_0), (.iload_n 2, 1, 2, 0, [], g_0), (.bipush 8, 2, 8, 0, [], g_0), (.imul, 1, 0, 0, [], g_0), (.iload_n 3, 1, 3, 0, [], g_0), (.iadd, 1, 0, 0, [], g_0), (.iaload, 1, 0, 0, [], g_0), (.istore 7, 2, 7, 0, [], g_0), (.aload_n 0, 1, 0, 0, [], g_0), (.getfield 12, 3, 5, 1, [211], g_0), (.getfield 99, 3, 1, 2, [202], g_0), (.iload_n 2, 1, 2, 0, [], g_0), (.bipush 8, 2, 8, 0, [], g_0), (.imul, 1, 0, 0, [], g_0), (.iload_n 3, 1, 3, 0, [], g_0), (.iadd, 1, 0, 0, [], g_0), (.iaload, 1, 0, 0, [], g_0), (.istore 8, 2, 8, 0, [], g_0), (.aload_n 0, 1, 0, 0, [], g_0), (.getfield 18, 3, 5, 2, [213], g_0), (.iload 4, 2, 4, 0, [], g_0), (.iconst 1, 1, 1, 0, [], g_0), (.iadd, 1, 0, 0, [], g_0), (.iload 7, 2, 7, 0, [], g_0), (.iastore, 1, 0, 0, [], g_0), (.aload_n 0, 1, 0, 0, [], g_0), (.getfield 18, 3, 5, 2, [213], g_0), (.iload 4, 2, 4, 0, [], g_0), (.iconst 2, 1, 2, 0, [], g_0), (.iadd, 1, 0, 0, [], g_0), (.iload 5, 2, 5, 0, [], g_0), (.iconst 1, 1, 1, 0, [], g_0), (.isub, 1, 0, 0, [], g_0), (.iload_n 3, 1, 3, 0, [], g_0), (.isub, 1, 0, 0, [], g_0), (.iastore, 1, 0, 0, [], g_0), (.aload_n 0, 1, 0, 0, [], g_0), (.getfield 18, 3, 5, 2, [213], g_0), (.iload 4, 2, 4, 0, [], g_0), (.iconst 5, 1, 5, 0, [], g_0), (.iadd, 1, 0, 0, [], g_0), (.iload 8, 2, 8, 0, [], g_0), (.iastore, 1, 0, 0, [], g_0), (.iload 8, 2, 8, 0, [], g_0), (.ifCond .le 73, 3, 9, 0, [], g_0), (.iload 7, 2, 7, 0, [], g_0), (.ifCond .lt 68, 3, 9, 0, [], g_0), (.iload 7, 2, 7, 0, [], g_0), (.bipush 8, 2, 8, 0, [], g_0), (.if_icmp .ge 61, 3, 9, 0, [], g_0), (.aload_n 0, 1, 0, 0, [], g_0), (.getfield 22, 3, 5, 0, [210], g_0), (.getfield 66, 3, 2, 0, [139], g_0), (.iload 7, 2, 7, 0, [], g_0), (.aaload, 1, 0, 0, [], g_0), (.astore 9, 2, 9, 0, [], g_0), (.iload_n 2, 1, 2, 0, [], g_0), (.aload 9, 2, 9, 0, [], g_0), (.getfield 102, 3, 0, 2, [111], g_0), (.isub, 1, 0, 0, [], g_0), (.istore 10, 2, 10, 0, [], g_0), (.aload_n 0, 1, 0, 0, [], g_0), (.getfield 18, 3, 5, 2, [213], g_0), (.iload 4, 2, 4, 0, [], g_0), (.iconst 0, 1, 0, 0, [], g_0), (.iadd, 1, 0, 0, [], g_0), (.iload 10, 2, 10, 0, [], g_0), (.ifCond .lt 25, 3, 7, 0, [], g_0), (.iload 10, 2, 10, 0, [], g_0), (.aload 9, 2, 9, 0, [], g_0), (.getfield 105, 3, 0, 0, [104], g_0), (.arraylength, 1, 0, 0, [], g_0), (.if_icmp .ge 14, 3, 7, 0, [], g_0), (.aload 9, 2, 9, 0, [], g_0), (.getfield 105, 3, 0, 0, [104], g_0), (.iload 10, 2, 10, 0, [], g_0), (.iaload, 1, 0, 0, [], g_0), (.goto 4, 3, 8, 0, [], g_0)]
def bk_T_keepFacts_7 : List En := [(.iconst (-1), 1, 1, 1, [], g_0)]
def bk_T_keepFacts_8 : List En := [(.iastore, 1, 0, 0, [], g_0)]
def bk_T_keepFacts_9 : List En := [(.return_, 1, 0, 0, [], g_0)]
def cd_T_keepFacts : Cd := [(0, bk_T_keepFacts_0), (29, bk_T_keepFacts_1), (30, bk_T_keepFacts_2), (47, bk_T_keepFacts_3), (101, bk_T_keepFacts_4), (102, bk_T_keepFacts_5), (111, bk_T_keepFacts_6), (325, bk_T_keepFacts_7), (326, bk_T_keepFacts_8), (327, bk_T_keepFacts_9), (328, [])]
def Y_T_keepFacts : Mth := (g_T_keepFacts, RT, cd_T_keepFacts)
set_option maxRecDepth 20000 in
theorem ok_T_keepFacts : okM Y_T_keepFacts = true := by decide +kernel
theorem en_T_keepFacts {d : Nat} {u : Mem} {Q : Option MV → Mem → Prop} (as : List MV) (hc : cats as ≤ 11) (h : RunB d Y_T_keepFacts 0 (argL as 11) [] u Q) : OKm d g_T_keepFacts as u Q := OKm.of (Y := Y_T_keepFacts) ok_T_keepFacts hc h
theorem rb_T_keepFacts_0 {d : Nat} {L : List (Option MV)} {st : List MV} {u : Mem} {Q : Option MV → Mem → Prop} (h : go d Y_T_keepFacts Q bk_T_keepFacts_0 0 L st u) : RunB (d + 1) Y_T_keepFacts 0 L st u Q := run_go ok_T_keepFacts (by decide) h
theorem rb_T_keepFacts_1 {d : Nat} {L : List (Option MV)} {st : List MV} {u : Mem} {Q : Option MV → Mem → Prop} (h : go d Y_T_keepFacts Q bk_T_keepFacts_1 1 L st u) : RunB (d + 1) Y_T_keepFacts 1 L st u Q := run_go ok_T_keepFacts (by decide) h
theorem rb_T_keepFacts_2 {d : Nat} {L : List (Option MV)} {st : List MV} {u : Mem} {Q : Option MV → Mem → Prop} (h : go d Y_T_keepFacts Q bk_T_keepFacts_2 2 L st u) : RunB (d + 1) Y_T_keepFacts 2 L st u Q := run_go ok_T_keepFacts (by decide) h
theorem rb_T_keepFacts_3 {d : Nat} {L : List (Option MV)} {st : List MV} {u : Mem} {Q : Option MV → Mem → Prop} (h : go d Y_T_keepFacts Q bk_T_keepFacts_3 3 L st u) : RunB (d + 1) Y_T_keepFacts 3 L st u Q := run_go ok_T_keepFacts (by decide) h
theorem rb_T_keepFacts_4 {d : Nat} {L : List (Option MV)} {st : List MV} {u : Mem} {Q : Option MV → Mem → Prop} (h : go d Y_T_keepFacts Q bk_T_keepFacts_4 4 L st u) : RunB (d + 1) Y_T_keepFacts 4 L st u Q := run_go ok_T_keepFacts (by decide) h
theorem rb_T_keepFacts_5 {d : Nat} {L : List (Option MV)} {st : List MV} {u : Mem} {Q : Option MV → Mem → Prop} (h : go d Y_T_keepFacts Q bk_T_keepFacts_5 5 L st u) : RunB (d + 1) Y_T_keepFacts 5 L st u Q := run_go ok_T_keepFacts (by decide) h
theorem rb_T_keepFacts_6 {d : Nat} {L : List (Option MV)} {st : List MV} {u : Mem} {Q : Option MV → Mem → Prop} (h : go d Y_T_keepFacts Q bk_T_keepFacts_6 6 L st u) : RunB (d + 1) Y_T_keepFacts 6 L st u Q := run_go ok_T_keepFacts (by decide) h
theorem rb_T_keepFacts_7 {d : Nat} {L : List (Option MV)} {st : List MV} {u : Mem} {Q : Option MV → Mem → Prop} (h : go d Y_T_keepFacts Q bk_T_keepFacts_7 7 L st u) : RunB (d + 1) Y_T_keepFacts 7 L st u Q := run_go ok_T_keepFacts (by decide) h
theorem rb_T_keepFacts_8 {d : Nat} {L : List (Option MV)} {st : List MV} {u : Mem} {Q : Option MV → Mem → Prop} (h : go d Y_T_keepFacts Q bk_T_keepFacts_8 8 L st u) : RunB (d + 1) Y_T_keepFacts 8 L st u Q := run_go ok_T_keepFacts (by decide) h
theorem rb_T_keepFacts_9 {d : Nat} {L : List (Option MV)} {st : List MV} {u : Mem} {Q : Option MV → Mem → Prop} (h : go d Y_T_keepFacts Q bk_T_keepFacts_9 9 L st u) : RunB (d + 1) Y_T_keepFacts 9 L st u Q := run_go ok_T_keepFacts (by decide) h
def bk_T_bleach_0 : List En := [(.iconst 0, 1, 0, 0, [], g_0), (.istore_n 1, 1, 1, 0, [], g_0)]
def bk_T_bleach_1 : List En := [(.iload_n 1, 1, 1, 0, [], g_0), (.bipush 6, 2, 6, 0, [], g_0), (.if_icmp .ge 101, 3, 5, 0, [], g_0), (.aload_n 0, 1, 0, 0, [], g_0), (.getfield 12, 3, 5, 1, [211], g_0), (.getfield 90, 3, 1, 0, [198], g_0), (.iload_n 1, 1, 1, 0, [], g_0), (.iaload, 1, 0, 0, [], g_0), (.iconst 1, 1, 1, 0, [], g_0), (.isub, 1, 0, 0, [], g_0), (.istore_n 2, 1, 2, 0, [], g_0), (.iload_n 2, 1, 2, 0, [], g_0), (.ifCond .lt 79, 3, 4, 0, [], g_0), (.iload_n 1, 1, 1, 0, [], g_0), (.bipush 8, 2, 8, 0, [], g_0), (.imul, 1, 0, 0, [], g_0), (.iload_n 2, 1, 2, 0, [], g_0), (.iadd, 1, 0, 0, [], g_0), (.istore_n 3, 1, 3, 0, [], g_0), (.aload_n 0, 1, 0, 0, [], g_0), (.getfield 12, 3, 5, 1, [211], g_0), (.getfield 93, 3, 1, 1, [200], g_0), (.iload_n 3, 1, 3, 0, [], g_0), (.iaload, 1, 0, 0, [], g_0), (.istore 4, 2, 4, 0, [], g_0), (.iload 4, 2, 4, 0, [], g_0), (.ifCond .lt 28, 3, 2, 0, [], g_0), (.iload 4, 2, 4, 0, [], g_0), (.bipush 8, 2, 8, 0, [], g_0), (.if_icmp .ge 21, 3, 2, 0, [], g_0), (.iconst 3, 1, 3, 0, [], g_0), (.aload_n 0, 1, 0, 0, [], g_0), (.getfield 22, 3, 5, 0, [210], g_0), (.getfield 66, 3, 2, 0, [139], g_0), (.iload 4, 2, 4, 0, [], g_0), (.aaload, 1, 0, 0, [], g_0), (.getfield 108, 3, 0, 3, [114], g_0), (.isub, 1, 0, 0, [], g_0), (.goto 4, 3, 3, 0, [], g_0)]
def bk_T_bleach_2 : List En := [(.iconst 0, 1, 0, 0, [], g_0)]
def bk_T_bleach_3 : List En := [(.istore 5, 2, 5, 0, [], g_0), (.aload_n 0, 1, 0, 0, [], g_0), (.getfield 12, 3, 5, 1, [211], g_0), (.getfield 99, 3, 1, 2, [202], g_0), (.iload_n 3, 1, 3, 0, [], g_0), (.iconst 0, 1, 0, 0, [], g_0), (.aload_n 0, 1, 0, 0, [], g_0), (.getfield 12, 3, 5, 1, [211], g_0), (.getfield 99, 3, 1, 2, [202], g_0), (.iload_n 3, 1, 3, 0, [], g_0), (.iaload, 1, 0, 0, [], g_0), (.iload 5, 2, 5, 0, [], g_0), (.isub, 1, 0, 0, [], g_0), (.invokestatic 111, 3, 0, 4, [476, 251, 0, 75, 252], g_0), (.iastore, 1, 0, 0, [], g_0)]
def bk_T_bleach_4 : List En := [(.iinc 1 1, 3, 1, 1, [0], g_0), (.goto (-101), 3, 1, 0, [], g_0)]
def bk_T_bleach_5 : List En := [(.return_, 1, 0, 0, [], g_0)]
def cd_T_bleach : Cd := [(0, bk_T_bleach_0), (2, bk_T_bleach_1), (72, bk_T_bleach_2), (73, bk_T_bleach_3), (100, bk_T_bleach_4), (106, bk_T_bleach_5), (107, [])]
def Y_T_bleach : Mth := (g_T_bleach, RT, cd_T_bleach)
set_option maxRecDepth 20000 in
theorem ok_T_bleach : okM Y_T_bleach = true := by decide +kernel
theorem en_T_bleach {d : Nat} {u : Mem} {Q : Option MV → Mem → Prop} (as : List MV) (hc : cats as ≤ 6) (h : RunB d Y_T_bleach 0 (argL as 6) [] u Q) : OKm d g_T_bleach as u Q := OKm.of (Y := Y_T_bleach) ok_T_bleach hc h
theorem rb_T_bleach_0 {d : Nat} {L : List (Option MV)} {st : List MV} {u : Mem} {Q : Option MV → Mem → Prop} (h : go d Y_T_bleach Q bk_T_bleach_0 0 L st u) : RunB (d + 1) Y_T_bleach 0 L st u Q := run_go ok_T_bleach (by decide) h
theorem rb_T_bleach_1 {d : Nat} {L : List (Option MV)} {st : List MV} {u : Mem} {Q : Option MV → Mem → Prop} (h : go d Y_T_bleach Q bk_T_bleach_1 1 L st u) : RunB (d + 1) Y_T_bleach 1 L st u Q := run_go ok_T_bleach (by decide) h
theorem rb_T_bleach_2 {d : Nat} {L : List (Option MV)} {st : List MV} {u : Mem} {Q : Option MV → Mem → Prop} (h : go d Y_T_bleach Q bk_T_bleach_2 2 L st u) : RunB (d + 1) Y_T_bleach 2 L st u Q := run_go ok_T_bleach (by decide) h
theorem rb_T_bleach_3 {d : Nat} {L : List (Option MV)} {st : List MV} {u : Mem} {Q : Option MV → Mem → Prop} (h : go d Y_T_bleach Q bk_T_bleach_3 3 L st u) : RunB (d + 1) Y_T_bleach 3 L st u Q := run_go ok_T_bleach (by decide) h
theorem rb_T_bleach_4 {d : Nat} {L : List (Option MV)} {st : List MV} {u : Mem} {Q : Option MV → Mem → Prop} (h : go d Y_T_bleach Q bk_T_bleach_4 4 L st u) : RunB (d + 1) Y_T_bleach 4 L st u Q := run_go ok_T_bleach (by decide) h
theorem rb_T_bleach_5 {d : Nat} {L : List (Option MV)} {st : List MV} {u : Mem} {Q : Option MV → Mem → Prop} (h : go d Y_T_bleach Q bk_T_bleach_5 5 L st u) : RunB (d + 1) Y_T_bleach 5 L st u Q := run_go ok_T_bleach (by decide) h
def bk_T_obeys_0 : List En := [(.aload_n 0, 1, 0, 0, [], g_0), (.getfield 22, 3, 5, 0, [210], g_0), (.getfield 37, 3, 2, 7, [156], g_0), (.ifCond .ne 5, 3, 1, 0, [], g_0), (.iconst 0, 1, 0, 0, [], g_0), (.ireturn, 1, 0, 1, [], g_0)]
def bk_T_obeys_1 : List En := [(.iconst 0, 1, 0, 0, [], g_0), (.istore_n 2, 1, 2, 0, [], g_0)]
def bk_T_obeys_2 : List En := [(.iload_n 2, 1, 2, 0, [], g_0), (.bipush 6, 2, 6, 0, [], g_0), (.if_icmp .ge 37, 3, 4, 0, [], g_0), (.aload_n 0, 1, 0, 0, [], g_0), (.getfield 22, 3, 5, 0, [210], g_0), (.getfield 116, 3, 2, 2, [145], g_0), (.iload_n 2, 1, 2, 0, [], g_0), (.iaload, 1, 0, 0, [], g_0), (.istore_n 3, 1, 3, 0, [], g_0), (.iload_n 3, 1, 3, 0, [], g_0), (.iconst (-1), 1, 1, 1, [], g_0), (.if_icmp .eq 16, 3, 3, 0, [], g_0), (.iload_n 3, 1, 3, 0, [], g_0), (.aload_n 0, 1, 0, 0, [], g_0), (.iload_n 1, 1, 1, 0, [], g_0), (.iload_n 2, 1, 2, 0, [], g_0), (.iconst 0, 1, 0, 0, [], g_0), (.invokevirtual 119, 3, 3, 5, [490, 478, 479, 71, 480], g_T_fact), (.if_icmp .eq 5, 3, 3, 0, [], g_0), (.iconst 0, 1, 0, 0, [], g_0), (.ireturn, 1, 0, 1, [], g_0)]
def bk_T_obeys_3 : List En := [(.iinc 2 1, 3, 2, 1, [0], g_0), (.goto (-37), 3, 2, 0, [], g_0)]
def bk_T_obeys_4 : List En := [(.iconst 1, 1, 1, 0, [], g_0), (.ireturn, 1, 0, 1, [], g_0)]
def cd_T_obeys : Cd := [(0, bk_T_obeys_0), (12, bk_T_obeys_1), (14, bk_T_obeys_2), (48, bk_T_obeys_3), (54, bk_T_obeys_4), (56, [])]
def Y_T_obeys : Mth := (g_T_obeys, RT, cd_T_obeys)
set_option maxRecDepth 20000 in
theorem ok_T_obeys : okM Y_T_obeys = true := by decide +kernel
theorem en_T_obeys {d : Nat} {u : Mem} {Q : Option MV → Mem → Prop} (as : List MV) (hc : cats as ≤ 4) (h : RunB d Y_T_obeys 0 (argL as 4) [] u Q) : OKm d g_T_obeys as u Q := OKm.of (Y := Y_T_obeys) ok_T_obeys hc h
theorem rb_T_obeys_0 {d : Nat} {L : List (Option MV)} {st : List MV} {u : Mem} {Q : Option MV → Mem → Prop} (h : go d Y_T_obeys Q bk_T_obeys_0 0 L st u) : RunB (d + 1) Y_T_obeys 0 L st u Q := run_go ok_T_obeys (by decide) h
theorem rb_T_obeys_1 {d : Nat} {L : List (Option MV)} {st : List MV} {u : Mem} {Q : Option MV → Mem → Prop} (h : go d Y_T_obeys Q bk_T_obeys_1 1 L st u) : RunB (d + 1) Y_T_obeys 1 L st u Q := run_go ok_T_obeys (by decide) h
theorem rb_T_obeys_2 {d : Nat} {L : List (Option MV)} {st : List MV} {u : Mem} {Q : Option MV → Mem → Prop} (h : go d Y_T_obeys Q bk_T_obeys_2 2 L st u) : RunB (d + 1) Y_T_obeys 2 L st u Q := run_go ok_T_obeys (by decide) h
theorem rb_T_obeys_3 {d : Nat} {L : List (Option MV)} {st : List MV} {u : Mem} {Q : Option MV → Mem → Prop} (h : go d Y_T_obeys Q bk_T_obeys_3 3 L st u) : RunB (d + 1) Y_T_obeys 3 L st u Q := run_go ok_T_obeys (by decide) h
theorem rb_T_obeys_4 {d : Nat} {L : List (Option MV)} {st : List MV} {u : Mem} {Q : Option MV → Mem → Prop} (h : go d Y_T_obeys Q bk_T_obeys_4 4 L st u) : RunB (d + 1) Y_T_obeys 4 L st u Q := run_go ok_T_obeys (by decide) h
def bk_T_daysObeyed_0 : List En := [(.iconst 0, 1, 0, 0, [], g_0), (.istore_n 1, 1, 1, 0, [], g_0), (.iconst 0, 1, 0, 0, [], g_0), (.istore_n 2, 1, 2, 0, [], g_0)]
def bk_T_daysObeyed_1 : List En := [(.iload_n 2, 1, 2, 0, [], g_0), (.bipush 20, 2, 20, 0, [], g_0), (.if_icmp .ge 20, 3, 3, 0, [], g_0), (.aload_n 0, 1, 0, 0, [], g_0), (.iload_n 2, 1, 2, 0, [], g_0), (.invokevirtual 43, 3, 1, 5, [499, 487, 488, 71, 489], g_T_obeys), (.ifCond .eq 6, 3, 2, 0, [], g_0), (.iinc 1 1, 3, 1, 1, [0], g_0)]
def bk_T_daysObeyed_2 : List En := [(.iinc 2 1, 3, 2, 1, [0], g_0), (.goto (-20), 3, 1, 0, [], g_0)]
def bk_T_daysObeyed_3 : List En := [(.iload_n 1, 1, 1, 0, [], g_0), (.ireturn, 1, 0, 0, [], g_0)]
def cd_T_daysObeyed : Cd := [(0, bk_T_daysObeyed_0), (4, bk_T_daysObeyed_1), (21, bk_T_daysObeyed_2), (27, bk_T_daysObeyed_3), (29, [])]
def Y_T_daysObeyed : Mth := (g_T_daysObeyed, RT, cd_T_daysObeyed)
set_option maxRecDepth 20000 in
theorem ok_T_daysObeyed : okM Y_T_daysObeyed = true := by decide +kernel
theorem en_T_daysObeyed {d : Nat} {u : Mem} {Q : Option MV → Mem → Prop} (as : List MV) (hc : cats as ≤ 3) (h : RunB d Y_T_daysObeyed 0 (argL as 3) [] u Q) : OKm d g_T_daysObeyed as u Q := OKm.of (Y := Y_T_daysObeyed) ok_T_daysObeyed hc h
theorem rb_T_daysObeyed_0 {d : Nat} {L : List (Option MV)} {st : List MV} {u : Mem} {Q : Option MV → Mem → Prop} (h : go d Y_T_daysObeyed Q bk_T_daysObeyed_0 0 L st u) : RunB (d + 1) Y_T_daysObeyed 0 L st u Q := run_go ok_T_daysObeyed (by decide) h
theorem rb_T_daysObeyed_1 {d : Nat} {L : List (Option MV)} {st : List MV} {u : Mem} {Q : Option MV → Mem → Prop} (h : go d Y_T_daysObeyed Q bk_T_daysObeyed_1 1 L st u) : RunB (d + 1) Y_T_daysObeyed 1 L st u Q := run_go ok_T_daysObeyed (by decide) h
theorem rb_T_daysObeyed_2 {d : Nat} {L : List (Option MV)} {st : List MV} {u : Mem} {Q : Option MV → Mem → Prop} (h : go d Y_T_daysObeyed Q bk_T_daysObeyed_2 2 L st u) : RunB (d + 1) Y_T_daysObeyed 2 L st u Q := run_go ok_T_daysObeyed (by decide) h
theorem rb_T_daysObeyed_3 {d : Nat} {L : List (Option MV)} {st : List MV} {u : Mem} {Q : Option MV → Mem → Prop} (h : go d Y_T_daysObeyed Q bk_T_daysObeyed_3 3 L st u) : RunB (d + 1) Y_T_daysObeyed 3 L st u Q := run_go ok_T_daysObeyed (by decide) h
def bk_T_daysRead_0 : List En := [(.iconst 0, 1, 0, 0, [], g_0), (.istore_n 2, 1, 2, 0, [], g_0), (.iconst 0, 1, 0, 0, [], g_0), (.istore_n 3, 1, 3, 0, [], g_0)]
def bk_T_daysRead_1 : List En := [(.iload_n 3, 1, 3, 0, [], g_0), (.bipush 20, 2, 20, 0, [], g_0), (.if_icmp .ge 21, 3, 3, 0, [], g_0), (.aload_n 0, 1, 0, 0, [], g_0), (.iload_n 3, 1, 3, 0, [], g_0), (.iload_n 1, 1, 1, 0, [], g_0), (.invokevirtual 123, 3, 2, 5, [512, 514, 7, 71, 515], g_T_isReadOn), (.ifCond .eq 6, 3, 2, 0, [], g_0), (.iinc 2 1, 3, 2, 1, [0], g_0)]
def bk_T_daysRead_2 : List En := [(.iinc 3 1, 3, 3, 1, [0], g_0), (.goto (-21), 3, 1, 0, [], g_0)]
def bk_T_daysRead_3 : List En := [(.iload_n 2, 1, 2, 0, [], g_0), (.ireturn, 1, 0, 0, [], g_0)]
def cd_T_daysRead : Cd := [(0, bk_T_daysRead_0), (4, bk_T_daysRead_1), (22, bk_T_daysRead_2), (28, bk_T_daysRead_3), (30, [])]
def Y_T_daysRead : Mth := (g_T_daysRead, RT, cd_T_daysRead)
set_option maxRecDepth 20000 in
theorem ok_T_daysRead : okM Y_T_daysRead = true := by decide +kernel
theorem en_T_daysRead {d : Nat} {u : Mem} {Q : Option MV → Mem → Prop} (as : List MV) (hc : cats as ≤ 4) (h : RunB d Y_T_daysRead 0 (argL as 4) [] u Q) : OKm d g_T_daysRead as u Q := OKm.of (Y := Y_T_daysRead) ok_T_daysRead hc h
theorem rb_T_daysRead_0 {d : Nat} {L : List (Option MV)} {st : List MV} {u : Mem} {Q : Option MV → Mem → Prop} (h : go d Y_T_daysRead Q bk_T_daysRead_0 0 L st u) : RunB (d + 1) Y_T_daysRead 0 L st u Q := run_go ok_T_daysRead (by decide) h
theorem rb_T_daysRead_1 {d : Nat} {L : List (Option MV)} {st : List MV} {u : Mem} {Q : Option MV → Mem → Prop} (h : go d Y_T_daysRead Q bk_T_daysRead_1 1 L st u) : RunB (d + 1) Y_T_daysRead 1 L st u Q := run_go ok_T_daysRead (by decide) h
theorem rb_T_daysRead_2 {d : Nat} {L : List (Option MV)} {st : List MV} {u : Mem} {Q : Option MV → Mem → Prop} (h : go d Y_T_daysRead Q bk_T_daysRead_2 2 L st u) : RunB (d + 1) Y_T_daysRead 2 L st u Q := run_go ok_T_daysRead (by decide) h
theorem rb_T_daysRead_3 {d : Nat} {L : List (Option MV)} {st : List MV} {u : Mem} {Q : Option MV → Mem → Prop} (h : go d Y_T_daysRead Q bk_T_daysRead_3 3 L st u) : RunB (d + 1) Y_T_daysRead 3 L st u Q := run_go ok_T_daysRead (by decide) h
def bk_T_isReadOn_0 : List En := [(.iconst 0, 1, 0, 0, [], g_0), (.istore_n 3, 1, 3, 0, [], g_0)]
def bk_T_isReadOn_1 : List En := [(.iload_n 3, 1, 3, 0, [], g_0), (.bipush 6, 2, 6, 0, [], g_0), (.if_icmp .ge 33, 3, 3, 0, [], g_0), (.aload_n 0, 1, 0, 0, [], g_0), (.iload_n 1, 1, 1, 0, [], g_0), (.iload_n 3, 1, 3, 0, [], g_0), (.iconst 1, 1, 1, 0, [], g_0), (.invokevirtual 119, 3, 3, 5, [490, 478, 479, 71, 480], g_T_fact), (.iload_n 2, 1, 2, 0, [], g_0), (.if_icmp .ne 16, 3, 2, 0, [], g_0), (.aload_n 0, 1, 0, 0, [], g_0), (.iload_n 1, 1, 1, 0, [], g_0), (.iload_n 3, 1, 3, 0, [], g_0), (.iconst 0, 1, 0, 0, [], g_0), (.invokevirtual 119, 3, 3, 5, [490, 478, 479, 71, 480], g_T_fact), (.iconst (-1), 1, 1, 1, [], g_0), (.if_icmp .eq 5, 3, 2, 0, [], g_0), (.iconst 1, 1, 1, 0, [], g_0), (.ireturn, 1, 0, 1, [], g_0)]
def bk_T_isReadOn_2 : List En := [(.iinc 3 1, 3, 3, 1, [0], g_0), (.goto (-33), 3, 1, 0, [], g_0)]
def bk_T_isReadOn_3 : List En := [(.iconst 0, 1, 0, 0, [], g_0), (.ireturn, 1, 0, 1, [], g_0)]
def cd_T_isReadOn : Cd := [(0, bk_T_isReadOn_0), (2, bk_T_isReadOn_1), (32, bk_T_isReadOn_2), (38, bk_T_isReadOn_3), (40, [])]
def Y_T_isReadOn : Mth := (g_T_isReadOn, RT, cd_T_isReadOn)
set_option maxRecDepth 20000 in
theorem ok_T_isReadOn : okM Y_T_isReadOn = true := by decide +kernel
theorem en_T_isReadOn {d : Nat} {u : Mem} {Q : Option MV → Mem → Prop} (as : List MV) (hc : cats as ≤ 4) (h : RunB d Y_T_isReadOn 0 (argL as 4) [] u Q) : OKm d g_T_isReadOn as u Q := OKm.of (Y := Y_T_isReadOn) ok_T_isReadOn hc h
theorem rb_T_isReadOn_0 {d : Nat} {L : List (Option MV)} {st : List MV} {u : Mem} {Q : Option MV → Mem → Prop} (h : go d Y_T_isReadOn Q bk_T_isReadOn_0 0 L st u) : RunB (d + 1) Y_T_isReadOn 0 L st u Q := run_go ok_T_isReadOn (by decide) h
theorem rb_T_isReadOn_1 {d : Nat} {L : List (Option MV)} {st : List MV} {u : Mem} {Q : Option MV → Mem → Prop} (h : go d Y_T_isReadOn Q bk_T_isReadOn_1 1 L st u) : RunB (d + 1) Y_T_isReadOn 1 L st u Q := run_go ok_T_isReadOn (by decide) h
theorem rb_T_isReadOn_2 {d : Nat} {L : List (Option MV)} {st : List MV} {u : Mem} {Q : Option MV → Mem → Prop} (h : go d Y_T_isReadOn Q bk_T_isReadOn_2 2 L st u) : RunB (d + 1) Y_T_isReadOn 2 L st u Q := run_go ok_T_isReadOn (by decide) h
theorem rb_T_isReadOn_3 {d : Nat} {L : List (Option MV)} {st : List MV} {u : Mem} {Q : Option MV → Mem → Prop} (h : go d Y_T_isReadOn Q bk_T_isReadOn_3 3 L st u) : RunB (d + 1) Y_T_isReadOn 3 L st u Q := run_go ok_T_isReadOn (by decide) h
def bk_T_unreadBills_0 : List En := [(.iconst 0, 1, 0, 0, [], g_0), (.istore_n 1, 1, 1, 0, [], g_0), (.iconst 0, 1, 0, 0, [], g_0), (.istore_n 2, 1, 2, 0, [], g_0)]
def bk_T_unreadBills_1 : List En := [(.iload_n 2, 1, 2, 0, [], g_0), (.aload_n 0, 1, 0, 0, [], g_0), (.getfield 22, 3, 5, 0, [210], g_0), (.getfield 63, 3, 2, 5, [151], g_0), (.if_icmp .ge 23, 3, 3, 0, [], g_0), (.aload_n 0, 1, 0, 0, [], g_0), (.iload_n 2, 1, 2, 0, [], g_0), (.invokevirtual 126, 3, 1, 5, [508, 509, 510, 71, 511], g_T_daysRead), (.ifCond .ne 9, 3, 2, 0, [], g_0), (.iload_n 1, 1, 1, 0, [], g_0), (.iconst 1, 1, 1, 0, [], g_0), (.iload_n 2, 1, 2, 0, [], g_0), (.ishl, 1, 0, 0, [], g_0), (.ior, 1, 0, 0, [], g_0), (.istore_n 1, 1, 1, 0, [], g_0)]
def bk_T_unreadBills_2 : List En := [(.iinc 2 1, 3, 2, 1, [0], g_0), (.goto (-28), 3, 1, 0, [], g_0)]
def bk_T_unreadBills_3 : List En := [(.iload_n 1, 1, 1, 0, [], g_0), (.ireturn, 1, 0, 0, [], g_0)]
def cd_T_unreadBills : Cd := [(0, bk_T_unreadBills_0), (4, bk_T_unreadBills_1), (29, bk_T_unreadBills_2), (35, bk_T_unreadBills_3), (37, [])]
def Y_T_unreadBills : Mth := (g_T_unreadBills, RT, cd_T_unreadBills)
set_option maxRecDepth 20000 in
theorem ok_T_unreadBills : okM Y_T_unreadBills = true := by decide +kernel
theorem en_T_unreadBills {d : Nat} {u : Mem} {Q : Option MV → Mem → Prop} (as : List MV) (hc : cats as ≤ 3) (h : RunB d Y_T_unreadBills 0 (argL as 3) [] u Q) : OKm d g_T_unreadBills as u Q := OKm.of (Y := Y_T_unreadBills) ok_T_unreadBills hc h
theorem rb_T_unreadBills_0 {d : Nat} {L : List (Option MV)} {st : List MV} {u : Mem} {Q : Option MV → Mem → Prop} (h : go d Y_T_unreadBills Q bk_T_unreadBills_0 0 L st u) : RunB (d + 1) Y_T_unreadBills 0 L st u Q := run_go ok_T_unreadBills (by decide) h
theorem rb_T_unreadBills_1 {d : Nat} {L : List (Option MV)} {st : List MV} {u : Mem} {Q : Option MV → Mem → Prop} (h : go d Y_T_unreadBills Q bk_T_unreadBills_1 1 L st u) : RunB (d + 1) Y_T_unreadBills 1 L st u Q := run_go ok_T_unreadBills (by decide) h
theorem rb_T_unreadBills_2 {d : Nat} {L : List (Option MV)} {st : List MV} {u : Mem} {Q : Option MV → Mem → Prop} (h : go d Y_T_unreadBills Q bk_T_unreadBills_2 2 L st u) : RunB (d + 1) Y_T_unreadBills 2 L st u Q := run_go ok_T_unreadBills (by decide) h
theorem rb_T_unreadBills_3 {d : Nat} {L : List (Option MV)} {st : List MV} {u : Mem} {Q : Option MV → Mem → Prop} (h : go d Y_T_unreadBills Q bk_T_unreadBills_3 3 L st u) : RunB (d + 1) Y_T_unreadBills 3 L st u Q := run_go ok_T_unreadBills (by decide) h
def bk_X_isFull_0 : List En := [(.aload_n 0, 1, 0, 0, [], g_0), (.getfield 9, 3, 6, 1, [254], g_0), (.aload_n 0, 1, 0, 0, [], g_0), (.getfield 24, 3, 6, 0, [253], g_0), (.arraylength, 1, 0, 0, [], g_0), (.if_icmp .lt 7, 3, 1, 0, [], g_0), (.iconst 1, 1, 1, 0, [], g_0), (.goto 4, 3, 2, 0, [], g_0)]
def bk_X_isFull_1 : List En := [(.iconst 0, 1, 0, 0, [], g_0)]
def bk_X_isFull_2 : List En := [(.ireturn, 1, 0, 1, [], g_0)]
def cd_X_isFull : Cd := [(0, bk_X_isFull_0), (16, bk_X_isFull_1), (17, bk_X_isFull_2), (18, [])]
def Y_X_isFull : Mth := (g_X_isFull, RX, cd_X_isFull)
set_option maxRecDepth 20000 in
theorem ok_X_isFull : okM Y_X_isFull = true := by decide +kernel
theorem en_X_isFull {d : Nat} {u : Mem} {Q : Option MV → Mem → Prop} (as : List MV) (hc : cats as ≤ 1) (h : RunB d Y_X_isFull 0 (argL as 1) [] u Q) : OKm d g_X_isFull as u Q := OKm.of (Y := Y_X_isFull) ok_X_isFull hc h
theorem rb_X_isFull_0 {d : Nat} {L : List (Option MV)} {st : List MV} {u : Mem} {Q : Option MV → Mem → Prop} (h : go d Y_X_isFull Q bk_X_isFull_0 0 L st u) : RunB (d + 1) Y_X_isFull 0 L st u Q := run_go ok_X_isFull (by decide) h
theorem rb_X_isFull_1 {d : Nat} {L : List (Option MV)} {st : List MV} {u : Mem} {Q : Option MV → Mem → Prop} (h : go d Y_X_isFull Q bk_X_isFull_1 1 L st u) : RunB (d + 1) Y_X_isFull 1 L st u Q := run_go ok_X_isFull (by decide) h
theorem rb_X_isFull_2 {d : Nat} {L : List (Option MV)} {st : List MV} {u : Mem} {Q : Option MV → Mem → Prop} (h : go d Y_X_isFull Q bk_X_isFull_2 2 L st u) : RunB (d + 1) Y_X_isFull 2 L st u Q := run_go ok_X_isFull (by decide) h
def bk_X_push_0 : List En := [(.aload_n 0, 1, 0, 0, [], g_0), (.invokevirtual 28, 3, 0, 6, [345, 338, 339, 74, 340], g_X_isFull), (.ifCond .ne 23, 3, 1, 0, [], g_0), (.aload_n 0, 1, 0, 0, [], g_0), (.getfield 24, 3, 6, 0, [253], g_0), (.aload_n 0, 1, 0, 0, [], g_0), (.getfield 9, 3, 6, 1, [254], g_0), (.iload_n 1, 1, 1, 0, [], g_0), (.iastore, 1, 0, 0, [], g_0), (.aload_n 0, 1, 0, 0, [], g_0), (.dup, 1, 0, 0, [], g_0), (.getfield 9, 3, 6, 1, [254], g_0), (.iconst 1, 1, 1, 0, [], g_0), (.iadd, 1, 0, 0, [], g_0), (.putfield 9, 3, 6, 1, [254], g_0)]
def bk_X_push_1 : List En := [(.return_, 1, 0, 0, [], g_0)]
def cd_X_push : Cd := [(0, bk_X_push_0), (27, bk_X_push_1), (28, [])]
def Y_X_push : Mth := (g_X_push, RX, cd_X_push)
set_option maxRecDepth 20000 in
theorem ok_X_push : okM Y_X_push = true := by decide +kernel
theorem en_X_push {d : Nat} {u : Mem} {Q : Option MV → Mem → Prop} (as : List MV) (hc : cats as ≤ 2) (h : RunB d Y_X_push 0 (argL as 2) [] u Q) : OKm d g_X_push as u Q := OKm.of (Y := Y_X_push) ok_X_push hc h
theorem rb_X_push_0 {d : Nat} {L : List (Option MV)} {st : List MV} {u : Mem} {Q : Option MV → Mem → Prop} (h : go d Y_X_push Q bk_X_push_0 0 L st u) : RunB (d + 1) Y_X_push 0 L st u Q := run_go ok_X_push (by decide) h
theorem rb_X_push_1 {d : Nat} {L : List (Option MV)} {st : List MV} {u : Mem} {Q : Option MV → Mem → Prop} (h : go d Y_X_push Q bk_X_push_1 1 L st u) : RunB (d + 1) Y_X_push 1 L st u Q := run_go ok_X_push (by decide) h
def bk_X_pop_0 : List En := [(.aload_n 0, 1, 0, 0, [], g_0), (.getfield 9, 3, 6, 1, [254], g_0), (.ifCond .le 13, 3, 1, 0, [], g_0), (.aload_n 0, 1, 0, 0, [], g_0), (.dup, 1, 0, 0, [], g_0), (.getfield 9, 3, 6, 1, [254], g_0), (.iconst 1, 1, 1, 0, [], g_0), (.isub, 1, 0, 0, [], g_0), (.putfield 9, 3, 6, 1, [254], g_0)]
def bk_X_pop_1 : List En := [(.return_, 1, 0, 0, [], g_0)]
def cd_X_pop : Cd := [(0, bk_X_pop_0), (17, bk_X_pop_1), (18, [])]
def Y_X_pop : Mth := (g_X_pop, RX, cd_X_pop)
set_option maxRecDepth 20000 in
theorem ok_X_pop : okM Y_X_pop = true := by decide +kernel
theorem en_X_pop {d : Nat} {u : Mem} {Q : Option MV → Mem → Prop} (as : List MV) (hc : cats as ≤ 1) (h : RunB d Y_X_pop 0 (argL as 1) [] u Q) : OKm d g_X_pop as u Q := OKm.of (Y := Y_X_pop) ok_X_pop hc h
theorem rb_X_pop_0 {d : Nat} {L : List (Option MV)} {st : List MV} {u : Mem} {Q : Option MV → Mem → Prop} (h : go d Y_X_pop Q bk_X_pop_0 0 L st u) : RunB (d + 1) Y_X_pop 0 L st u Q := run_go ok_X_pop (by decide) h
theorem rb_X_pop_1 {d : Nat} {L : List (Option MV)} {st : List MV} {u : Mem} {Q : Option MV → Mem → Prop} (h : go d Y_X_pop Q bk_X_pop_1 1 L st u) : RunB (d + 1) Y_X_pop 1 L st u Q := run_go ok_X_pop (by decide) h
end
section
def bk_X_byteAt_0 : List En := [(.iload_n 1, 1, 1, 0, [], g_0), (.aload_n 0, 1, 0, 0, [], g_0), (.getfield 9, 3, 6, 1, [254], g_0), (.invokestatic 32, 3, 2, 2, [358, 335, 0, 67, 336], g_W_isBelow), (.ifCond .eq 21, 3, 1, 0, [], g_0), (.iload_n 1, 1, 1, 0, [], g_0), (.aload_n 0, 1, 0, 0, [], g_0), (.getfield 24, 3, 6, 0, [253], g_0), (.arraylength, 1, 0, 0, [], g_0), (.if_icmp .ge 12, 3, 1, 0, [], g_0), (.aload_n 0, 1, 0, 0, [], g_0), (.getfield 24, 3, 6, 0, [253], g_0), (.iload_n 1, 1, 1, 0, [], g_0), (.iaload, 1, 0, 0, [], g_0), (.goto 4, 3, 2, 0, [], g_0)]
def bk_X_byteAt_1 : List En := [(.iconst (-1), 1, 1, 1, [], g_0)]
def bk_X_byteAt_2 : List En := [(.ireturn, 1, 0, 0, [], g_0)]
def cd_X_byteAt : Cd := [(0, bk_X_byteAt_0), (29, bk_X_byteAt_1), (30, bk_X_byteAt_2), (31, [])]
def Y_X_byteAt : Mth := (g_X_byteAt, RX, cd_X_byteAt)
set_option maxRecDepth 20000 in
theorem ok_X_byteAt : okM Y_X_byteAt = true := by decide +kernel
theorem en_X_byteAt {d : Nat} {u : Mem} {Q : Option MV → Mem → Prop} (as : List MV) (hc : cats as ≤ 2) (h : RunB d Y_X_byteAt 0 (argL as 2) [] u Q) : OKm d g_X_byteAt as u Q := OKm.of (Y := Y_X_byteAt) ok_X_byteAt hc h
theorem rb_X_byteAt_0 {d : Nat} {L : List (Option MV)} {st : List MV} {u : Mem} {Q : Option MV → Mem → Prop} (h : go d Y_X_byteAt Q bk_X_byteAt_0 0 L st u) : RunB (d + 1) Y_X_byteAt 0 L st u Q := run_go ok_X_byteAt (by decide) h
theorem rb_X_byteAt_1 {d : Nat} {L : List (Option MV)} {st : List MV} {u : Mem} {Q : Option MV → Mem → Prop} (h : go d Y_X_byteAt Q bk_X_byteAt_1 1 L st u) : RunB (d + 1) Y_X_byteAt 1 L st u Q := run_go ok_X_byteAt (by decide) h
theorem rb_X_byteAt_2 {d : Nat} {L : List (Option MV)} {st : List MV} {u : Mem} {Q : Option MV → Mem → Prop} (h : go d Y_X_byteAt Q bk_X_byteAt_2 2 L st u) : RunB (d + 1) Y_X_byteAt 2 L st u Q := run_go ok_X_byteAt (by decide) h
def bk_W_type_0 : List En := [(.iload_n 1, 1, 1, 0, [], g_0), (.iconst 3, 1, 3, 0, [], g_0), (.invokestatic 80, 3, 2, 1, [334, 335, 0, 67, 336], g_W_isBelow), (.ifCond .eq 13, 3, 1, 0, [], g_0), (.iload_n 2, 1, 2, 0, [], g_0), (.sipush 256, 3, 256, 0, [], g_0), (.invokestatic 80, 3, 2, 1, [334, 335, 0, 67, 336], g_W_isBelow), (.ifCond .ne 6, 3, 2, 0, [], g_0)]
def bk_W_type_1 : List En := [(.bipush (-2), 2, 2, 1, [], g_0), (.ireturn, 1, 0, 0, [], g_0)]
def bk_W_type_2 : List En := [(.aload_n 0, 1, 0, 0, [], g_0), (.getfield 11, 3, 7, 0, [290], g_0), (.iload_n 1, 1, 1, 0, [], g_0), (.aaload, 1, 0, 0, [], g_0), (.invokevirtual 84, 3, 0, 6, [337, 338, 339, 74, 340], g_X_isFull), (.ifCond .eq 6, 3, 3, 0, [], g_0), (.bipush (-4), 2, 4, 1, [], g_0), (.ireturn, 1, 0, 0, [], g_0)]
def bk_W_type_3 : List En := [(.aload_n 0, 1, 0, 0, [], g_0), (.getfield 11, 3, 7, 0, [290], g_0), (.iload_n 1, 1, 1, 0, [], g_0), (.aaload, 1, 0, 0, [], g_0), (.iload_n 2, 1, 2, 0, [], g_0), (.invokevirtual 88, 3, 1, 6, [341, 342, 343, 74, 344], g_X_push), (.aload_n 0, 1, 0, 0, [], g_0), (.iload_n 1, 1, 1, 0, [], g_0), (.invokevirtual 91, 3, 1, 7, [346, 348, 0, 67, 349], g_W_take), (.aload_n 0, 1, 0, 0, [], g_0), (.getfield 11, 3, 7, 0, [290], g_0), (.iload_n 1, 1, 1, 0, [], g_0), (.aaload, 1, 0, 0, [], g_0), (.getfield 94, 3, 6, 1, [255], g_0), (.ireturn, 1, 0, 0, [], g_0)]
def cd_W_type : Cd := [(0, bk_W_type_0), (18, bk_W_type_1), (21, bk_W_type_2), (36, bk_W_type_3), (61, [])]
def Y_W_type : Mth := (g_W_type, RW, cd_W_type)
set_option maxRecDepth 20000 in
theorem ok_W_type : okM Y_W_type = true := by decide +kernel
theorem en_W_type {d : Nat} {u : Mem} {Q : Option MV → Mem → Prop} (as : List MV) (hc : cats as ≤ 3) (h : RunB d Y_W_type 0 (argL as 3) [] u Q) : OKm d g_W_type as u Q := OKm.of (Y := Y_W_type) ok_W_type hc h
theorem rb_W_type_0 {d : Nat} {L : List (Option MV)} {st : List MV} {u : Mem} {Q : Option MV → Mem → Prop} (h : go d Y_W_type Q bk_W_type_0 0 L st u) : RunB (d + 1) Y_W_type 0 L st u Q := run_go ok_W_type (by decide) h
theorem rb_W_type_1 {d : Nat} {L : List (Option MV)} {st : List MV} {u : Mem} {Q : Option MV → Mem → Prop} (h : go d Y_W_type Q bk_W_type_1 1 L st u) : RunB (d + 1) Y_W_type 1 L st u Q := run_go ok_W_type (by decide) h
theorem rb_W_type_2 {d : Nat} {L : List (Option MV)} {st : List MV} {u : Mem} {Q : Option MV → Mem → Prop} (h : go d Y_W_type Q bk_W_type_2 2 L st u) : RunB (d + 1) Y_W_type 2 L st u Q := run_go ok_W_type (by decide) h
theorem rb_W_type_3 {d : Nat} {L : List (Option MV)} {st : List MV} {u : Mem} {Q : Option MV → Mem → Prop} (h : go d Y_W_type Q bk_W_type_3 3 L st u) : RunB (d + 1) Y_W_type 3 L st u Q := run_go ok_W_type (by decide) h
def bk_W_wipe_0 : List En := [(.iload_n 1, 1, 1, 0, [], g_0), (.iconst 3, 1, 3, 0, [], g_0), (.invokestatic 80, 3, 2, 1, [334, 335, 0, 67, 336], g_W_isBelow), (.ifCond .ne 6, 3, 1, 0, [], g_0), (.bipush (-2), 2, 2, 1, [], g_0), (.ireturn, 1, 0, 0, [], g_0)]
def bk_W_wipe_1 : List En := [(.aload_n 0, 1, 0, 0, [], g_0), (.getfield 11, 3, 7, 0, [290], g_0), (.iload_n 1, 1, 1, 0, [], g_0), (.aaload, 1, 0, 0, [], g_0), (.getfield 94, 3, 6, 1, [255], g_0), (.istore_n 2, 1, 2, 0, [], g_0), (.aload_n 0, 1, 0, 0, [], g_0), (.getfield 11, 3, 7, 0, [290], g_0), (.iload_n 1, 1, 1, 0, [], g_0), (.aaload, 1, 0, 0, [], g_0), (.iconst 0, 1, 0, 0, [], g_0), (.putfield 94, 3, 6, 1, [255], g_0), (.aload_n 0, 1, 0, 0, [], g_0), (.iload_n 1, 1, 1, 0, [], g_0), (.invokevirtual 91, 3, 1, 7, [346, 348, 0, 67, 349], g_W_take), (.iload_n 2, 1, 2, 0, [], g_0), (.ireturn, 1, 0, 0, [], g_0)]
def cd_W_wipe : Cd := [(0, bk_W_wipe_0), (11, bk_W_wipe_1), (38, [])]
def Y_W_wipe : Mth := (g_W_wipe, RW, cd_W_wipe)
set_option maxRecDepth 20000 in
theorem ok_W_wipe : okM Y_W_wipe = true := by decide +kernel
theorem en_W_wipe {d : Nat} {u : Mem} {Q : Option MV → Mem → Prop} (as : List MV) (hc : cats as ≤ 3) (h : RunB d Y_W_wipe 0 (argL as 3) [] u Q) : OKm d g_W_wipe as u Q := OKm.of (Y := Y_W_wipe) ok_W_wipe hc h
theorem rb_W_wipe_0 {d : Nat} {L : List (Option MV)} {st : List MV} {u : Mem} {Q : Option MV → Mem → Prop} (h : go d Y_W_wipe Q bk_W_wipe_0 0 L st u) : RunB (d + 1) Y_W_wipe 0 L st u Q := run_go ok_W_wipe (by decide) h
theorem rb_W_wipe_1 {d : Nat} {L : List (Option MV)} {st : List MV} {u : Mem} {Q : Option MV → Mem → Prop} (h : go d Y_W_wipe Q bk_W_wipe_1 1 L st u) : RunB (d + 1) Y_W_wipe 1 L st u Q := run_go ok_W_wipe (by decide) h
def bk_W_undo_0 : List En := [(.iload_n 1, 1, 1, 0, [], g_0), (.iconst 3, 1, 3, 0, [], g_0), (.invokestatic 80, 3, 2, 1, [334, 335, 0, 67, 336], g_W_isBelow), (.ifCond .ne 6, 3, 1, 0, [], g_0), (.bipush (-2), 2, 2, 1, [], g_0), (.ireturn, 1, 0, 0, [], g_0)]
def bk_W_undo_1 : List En := [(.aload_n 0, 1, 0, 0, [], g_0), (.getfield 11, 3, 7, 0, [290], g_0), (.iload_n 1, 1, 1, 0, [], g_0), (.aaload, 1, 0, 0, [], g_0), (.getfield 94, 3, 6, 1, [255], g_0), (.ifCond .ne 6, 3, 2, 0, [], g_0), (.bipush (-3), 2, 3, 1, [], g_0), (.ireturn, 1, 0, 0, [], g_0)]
def bk_W_undo_2 : List En := [(.aload_n 0, 1, 0, 0, [], g_0), (.getfield 11, 3, 7, 0, [290], g_0), (.iload_n 1, 1, 1, 0, [], g_0), (.aaload, 1, 0, 0, [], g_0), (.invokevirtual 97, 3, 0, 6, [385, 386, 387, 74, 388], g_X_pop), (.aload_n 0, 1, 0, 0, [], g_0), (.iload_n 1, 1, 1, 0, [], g_0), (.invokevirtual 91, 3, 1, 7, [346, 348, 0, 67, 349], g_W_take), (.aload_n 0, 1, 0, 0, [], g_0), (.getfield 11, 3, 7, 0, [290], g_0), (.iload_n 1, 1, 1, 0, [], g_0), (.aaload, 1, 0, 0, [], g_0), (.getfield 94, 3, 6, 1, [255], g_0), (.ireturn, 1, 0, 0, [], g_0)]
def cd_W_undo : Cd := [(0, bk_W_undo_0), (11, bk_W_undo_1), (26, bk_W_undo_2), (50, [])]
def Y_W_undo : Mth := (g_W_undo, RW, cd_W_undo)
set_option maxRecDepth 20000 in
theorem ok_W_undo : okM Y_W_undo = true := by decide +kernel
theorem en_W_undo {d : Nat} {u : Mem} {Q : Option MV → Mem → Prop} (as : List MV) (hc : cats as ≤ 2) (h : RunB d Y_W_undo 0 (argL as 2) [] u Q) : OKm d g_W_undo as u Q := OKm.of (Y := Y_W_undo) ok_W_undo hc h
theorem rb_W_undo_0 {d : Nat} {L : List (Option MV)} {st : List MV} {u : Mem} {Q : Option MV → Mem → Prop} (h : go d Y_W_undo Q bk_W_undo_0 0 L st u) : RunB (d + 1) Y_W_undo 0 L st u Q := run_go ok_W_undo (by decide) h
theorem rb_W_undo_1 {d : Nat} {L : List (Option MV)} {st : List MV} {u : Mem} {Q : Option MV → Mem → Prop} (h : go d Y_W_undo Q bk_W_undo_1 1 L st u) : RunB (d + 1) Y_W_undo 1 L st u Q := run_go ok_W_undo (by decide) h
theorem rb_W_undo_2 {d : Nat} {L : List (Option MV)} {st : List MV} {u : Mem} {Q : Option MV → Mem → Prop} (h : go d Y_W_undo Q bk_W_undo_2 2 L st u) : RunB (d + 1) Y_W_undo 2 L st u Q := run_go ok_W_undo (by decide) h
def bk_W_fault_0 : List En := [(.iload_n 1, 1, 1, 0, [], g_0), (.iconst 3, 1, 3, 0, [], g_0), (.invokestatic 80, 3, 2, 1, [334, 335, 0, 67, 336], g_W_isBelow), (.ifCond .eq 15, 3, 1, 0, [], g_0), (.aload_n 0, 1, 0, 0, [], g_0), (.getfield 11, 3, 7, 0, [290], g_0), (.iload_n 1, 1, 1, 0, [], g_0), (.aaload, 1, 0, 0, [], g_0), (.getfield 100, 3, 6, 2, [258], g_0), (.goto 5, 3, 2, 0, [], g_0)]
def bk_W_fault_1 : List En := [(.bipush (-2), 2, 2, 1, [], g_0)]
def bk_W_fault_2 : List En := [(.ireturn, 1, 0, 0, [], g_0)]
def cd_W_fault : Cd := [(0, bk_W_fault_0), (20, bk_W_fault_1), (22, bk_W_fault_2), (23, [])]
def Y_W_fault : Mth := (g_W_fault, RW, cd_W_fault)
set_option maxRecDepth 20000 in
theorem ok_W_fault : okM Y_W_fault = true := by decide +kernel
theorem en_W_fault {d : Nat} {u : Mem} {Q : Option MV → Mem → Prop} (as : List MV) (hc : cats as ≤ 2) (h : RunB d Y_W_fault 0 (argL as 2) [] u Q) : OKm d g_W_fault as u Q := OKm.of (Y := Y_W_fault) ok_W_fault hc h
theorem rb_W_fault_0 {d : Nat} {L : List (Option MV)} {st : List MV} {u : Mem} {Q : Option MV → Mem → Prop} (h : go d Y_W_fault Q bk_W_fault_0 0 L st u) : RunB (d + 1) Y_W_fault 0 L st u Q := run_go ok_W_fault (by decide) h
theorem rb_W_fault_1 {d : Nat} {L : List (Option MV)} {st : List MV} {u : Mem} {Q : Option MV → Mem → Prop} (h : go d Y_W_fault Q bk_W_fault_1 1 L st u) : RunB (d + 1) Y_W_fault 1 L st u Q := run_go ok_W_fault (by decide) h
theorem rb_W_fault_2 {d : Nat} {L : List (Option MV)} {st : List MV} {u : Mem} {Q : Option MV → Mem → Prop} (h : go d Y_W_fault Q bk_W_fault_2 2 L st u) : RunB (d + 1) Y_W_fault 2 L st u Q := run_go ok_W_fault (by decide) h
def bk_W_poster_0 : List En := [(.iload_n 1, 1, 1, 0, [], g_0), (.aload_n 0, 1, 0, 0, [], g_0), (.getfield 18, 3, 7, 1, [291], g_0), (.getfield 103, 3, 2, 5, [152], g_0), (.invokestatic 80, 3, 2, 1, [334, 335, 0, 67, 336], g_W_isBelow), (.ifCond .eq 12, 3, 1, 0, [], g_0), (.iload_n 2, 1, 2, 0, [], g_0), (.bipush 9, 2, 9, 0, [], g_0), (.invokestatic 80, 3, 2, 1, [334, 335, 0, 67, 336], g_W_isBelow), (.ifCond .ne 6, 3, 2, 0, [], g_0)]
def bk_W_poster_1 : List En := [(.bipush (-2), 2, 2, 1, [], g_0), (.ireturn, 1, 0, 0, [], g_0)]
def bk_W_poster_2 : List En := [(.aload_n 0, 1, 0, 0, [], g_0), (.getfield 18, 3, 7, 1, [291], g_0), (.getfield 106, 3, 2, 0, [140], g_0), (.iload_n 1, 1, 1, 0, [], g_0), (.aaload, 1, 0, 0, [], g_0), (.astore_n 3, 1, 3, 0, [], g_0), (.iload_n 2, 1, 2, 0, [], g_0), (.tableswitch 60 0 4 #[35, 40, 45, 50, 55], 35, 8, 0, [3, 4, 5, 6, 7], g_0)]
def bk_W_poster_3 : List En := [(.aload_n 3, 1, 3, 0, [], g_0), (.getfield 110, 3, 0, 1, [107], g_0), (.ireturn, 1, 0, 0, [], g_0)]
def bk_W_poster_4 : List En := [(.aload_n 3, 1, 3, 0, [], g_0), (.getfield 115, 3, 0, 2, [110], g_0), (.ireturn, 1, 0, 0, [], g_0)]
def bk_W_poster_5 : List En := [(.aload_n 3, 1, 3, 0, [], g_0), (.getfield 118, 3, 0, 3, [113], g_0), (.ireturn, 1, 0, 0, [], g_0)]
def bk_W_poster_6 : List En := [(.aload_n 3, 1, 3, 0, [], g_0), (.getfield 121, 3, 0, 4, [117], g_0), (.ireturn, 1, 0, 0, [], g_0)]
def bk_W_poster_7 : List En := [(.aload_n 3, 1, 3, 0, [], g_0), (.getfield 124, 3, 0, 5, [120], g_0), (.ireturn, 1, 0, 0, [], g_0)]
def bk_W_poster_8 : List En := [(.aload_n 3, 1, 3, 0, [], g_0), (.iload_n 2, 1, 2, 0, [], g_0), (.iconst 5, 1, 5, 0, [], g_0), (.isub, 1, 0, 0, [], g_0), (.invokevirtual 125, 3, 1, 0, [397, 398, 399, 69, 400], g_B_letter), (.ireturn, 1, 0, 0, [], g_0)]
def cd_W_poster : Cd := [(0, bk_W_poster_0), (23, bk_W_poster_1), (26, bk_W_poster_2), (72, bk_W_poster_3), (77, bk_W_poster_4), (82, bk_W_poster_5), (87, bk_W_poster_6), (92, bk_W_poster_7), (97, bk_W_poster_8), (105, [])]
def Y_W_poster : Mth := (g_W_poster, RW, cd_W_poster)
set_option maxRecDepth 20000 in
theorem ok_W_poster : okM Y_W_poster = true := by decide +kernel
theorem en_W_poster {d : Nat} {u : Mem} {Q : Option MV → Mem → Prop} (as : List MV) (hc : cats as ≤ 4) (h : RunB d Y_W_poster 0 (argL as 4) [] u Q) : OKm d g_W_poster as u Q := OKm.of (Y := Y_W_poster) ok_W_poster hc h
theorem rb_W_poster_0 {d : Nat} {L : List (Option MV)} {st : List MV} {u : Mem} {Q : Option MV → Mem → Prop} (h : go d Y_W_poster Q bk_W_poster_0 0 L st u) : RunB (d + 1) Y_W_poster 0 L st u Q := run_go ok_W_poster (by decide) h
theorem rb_W_poster_1 {d : Nat} {L : List (Option MV)} {st : List MV} {u : Mem} {Q : Option MV → Mem → Prop} (h : go d Y_W_poster Q bk_W_poster_1 1 L st u) : RunB (d + 1) Y_W_poster 1 L st u Q := run_go ok_W_poster (by decide) h
theorem rb_W_poster_2 {d : Nat} {L : List (Option MV)} {st : List MV} {u : Mem} {Q : Option MV → Mem → Prop} (h : go d Y_W_poster Q bk_W_poster_2 2 L st u) : RunB (d + 1) Y_W_poster 2 L st u Q := run_go ok_W_poster (by decide) h
theorem rb_W_poster_3 {d : Nat} {L : List (Option MV)} {st : List MV} {u : Mem} {Q : Option MV → Mem → Prop} (h : go d Y_W_poster Q bk_W_poster_3 3 L st u) : RunB (d + 1) Y_W_poster 3 L st u Q := run_go ok_W_poster (by decide) h
theorem rb_W_poster_4 {d : Nat} {L : List (Option MV)} {st : List MV} {u : Mem} {Q : Option MV → Mem → Prop} (h : go d Y_W_poster Q bk_W_poster_4 4 L st u) : RunB (d + 1) Y_W_poster 4 L st u Q := run_go ok_W_poster (by decide) h
theorem rb_W_poster_5 {d : Nat} {L : List (Option MV)} {st : List MV} {u : Mem} {Q : Option MV → Mem → Prop} (h : go d Y_W_poster Q bk_W_poster_5 5 L st u) : RunB (d + 1) Y_W_poster 5 L st u Q := run_go ok_W_poster (by decide) h
theorem rb_W_poster_6 {d : Nat} {L : List (Option MV)} {st : List MV} {u : Mem} {Q : Option MV → Mem → Prop} (h : go d Y_W_poster Q bk_W_poster_6 6 L st u) : RunB (d + 1) Y_W_poster 6 L st u Q := run_go ok_W_poster (by decide) h
theorem rb_W_poster_7 {d : Nat} {L : List (Option MV)} {st : List MV} {u : Mem} {Q : Option MV → Mem → Prop} (h : go d Y_W_poster Q bk_W_poster_7 7 L st u) : RunB (d + 1) Y_W_poster 7 L st u Q := run_go ok_W_poster (by decide) h
theorem rb_W_poster_8 {d : Nat} {L : List (Option MV)} {st : List MV} {u : Mem} {Q : Option MV → Mem → Prop} (h : go d Y_W_poster Q bk_W_poster_8 8 L st u) : RunB (d + 1) Y_W_poster 8 L st u Q := run_go ok_W_poster (by decide) h
def bk_W_rain_0 : List En := [(.iload_n 1, 1, 1, 0, [], g_0), (.bipush 20, 2, 20, 0, [], g_0), (.invokestatic 80, 3, 2, 1, [334, 335, 0, 67, 336], g_W_isBelow), (.ifCond .eq 15, 3, 1, 0, [], g_0), (.aload_n 0, 1, 0, 0, [], g_0), (.getfield 18, 3, 7, 1, [291], g_0), (.getfield 129, 3, 2, 1, [142], g_0), (.iload_n 1, 1, 1, 0, [], g_0), (.iaload, 1, 0, 0, [], g_0), (.goto 5, 3, 2, 0, [], g_0)]
def bk_W_rain_1 : List En := [(.bipush (-2), 2, 2, 1, [], g_0)]
def bk_W_rain_2 : List En := [(.ireturn, 1, 0, 0, [], g_0)]
def cd_W_rain : Cd := [(0, bk_W_rain_0), (21, bk_W_rain_1), (23, bk_W_rain_2), (24, [])]
def Y_W_rain : Mth := (g_W_rain, RW, cd_W_rain)
set_option maxRecDepth 20000 in
theorem ok_W_rain : okM Y_W_rain = true := by decide +kernel
theorem en_W_rain {d : Nat} {u : Mem} {Q : Option MV → Mem → Prop} (as : List MV) (hc : cats as ≤ 2) (h : RunB d Y_W_rain 0 (argL as 2) [] u Q) : OKm d g_W_rain as u Q := OKm.of (Y := Y_W_rain) ok_W_rain hc h
theorem rb_W_rain_0 {d : Nat} {L : List (Option MV)} {st : List MV} {u : Mem} {Q : Option MV → Mem → Prop} (h : go d Y_W_rain Q bk_W_rain_0 0 L st u) : RunB (d + 1) Y_W_rain 0 L st u Q := run_go ok_W_rain (by decide) h
theorem rb_W_rain_1 {d : Nat} {L : List (Option MV)} {st : List MV} {u : Mem} {Q : Option MV → Mem → Prop} (h : go d Y_W_rain Q bk_W_rain_1 1 L st u) : RunB (d + 1) Y_W_rain 1 L st u Q := run_go ok_W_rain (by decide) h
theorem rb_W_rain_2 {d : Nat} {L : List (Option MV)} {st : List MV} {u : Mem} {Q : Option MV → Mem → Prop} (h : go d Y_W_rain Q bk_W_rain_2 2 L st u) : RunB (d + 1) Y_W_rain 2 L st u Q := run_go ok_W_rain (by decide) h
def bk_W_law_0 : List En := [(.iload_n 1, 1, 1, 0, [], g_0), (.bipush 6, 2, 6, 0, [], g_0), (.invokestatic 80, 3, 2, 1, [334, 335, 0, 67, 336], g_W_isBelow), (.ifCond .eq 15, 3, 1, 0, [], g_0), (.aload_n 0, 1, 0, 0, [], g_0), (.getfield 18, 3, 7, 1, [291], g_0), (.getfield 132, 3, 2, 2, [144], g_0), (.iload_n 1, 1, 1, 0, [], g_0), (.iaload, 1, 0, 0, [], g_0), (.goto 5, 3, 2, 0, [], g_0)]
def bk_W_law_1 : List En := [(.bipush (-2), 2, 2, 1, [], g_0)]
def bk_W_law_2 : List En := [(.ireturn, 1, 0, 0, [], g_0)]
def cd_W_law : Cd := [(0, bk_W_law_0), (21, bk_W_law_1), (23, bk_W_law_2), (24, [])]
def Y_W_law : Mth := (g_W_law, RW, cd_W_law)
set_option maxRecDepth 20000 in
theorem ok_W_law : okM Y_W_law = true := by decide +kernel
theorem en_W_law {d : Nat} {u : Mem} {Q : Option MV → Mem → Prop} (as : List MV) (hc : cats as ≤ 2) (h : RunB d Y_W_law 0 (argL as 2) [] u Q) : OKm d g_W_law as u Q := OKm.of (Y := Y_W_law) ok_W_law hc h
theorem rb_W_law_0 {d : Nat} {L : List (Option MV)} {st : List MV} {u : Mem} {Q : Option MV → Mem → Prop} (h : go d Y_W_law Q bk_W_law_0 0 L st u) : RunB (d + 1) Y_W_law 0 L st u Q := run_go ok_W_law (by decide) h
theorem rb_W_law_1 {d : Nat} {L : List (Option MV)} {st : List MV} {u : Mem} {Q : Option MV → Mem → Prop} (h : go d Y_W_law Q bk_W_law_1 1 L st u) : RunB (d + 1) Y_W_law 1 L st u Q := run_go ok_W_law (by decide) h
theorem rb_W_law_2 {d : Nat} {L : List (Option MV)} {st : List MV} {u : Mem} {Q : Option MV → Mem → Prop} (h : go d Y_W_law Q bk_W_law_2 2 L st u) : RunB (d + 1) Y_W_law 2 L st u Q := run_go ok_W_law (by decide) h
def bk_W_tear_0 : List En := [(.iload_n 1, 1, 1, 0, [], g_0), (.bipush 20, 2, 20, 0, [], g_0), (.invokestatic 80, 3, 2, 1, [334, 335, 0, 67, 336], g_W_isBelow), (.ifCond .eq 12, 3, 1, 0, [], g_0), (.iload_n 2, 1, 2, 0, [], g_0), (.bipush 6, 2, 6, 0, [], g_0), (.invokestatic 80, 3, 2, 1, [334, 335, 0, 67, 336], g_W_isBelow), (.ifCond .ne 6, 3, 2, 0, [], g_0)]
def bk_W_tear_1 : List En := [(.bipush (-2), 2, 2, 1, [], g_0), (.ireturn, 1, 0, 0, [], g_0)]
def bk_W_tear_2 : List En := [(.aload_n 0, 1, 0, 0, [], g_0), (.getfield 18, 3, 7, 1, [291], g_0), (.getfield 135, 3, 2, 8, [160], g_0), (.bipush 8, 2, 8, 0, [], g_0), (.if_icmp .lt 6, 3, 3, 0, [], g_0), (.bipush (-4), 2, 4, 1, [], g_0), (.ireturn, 1, 0, 0, [], g_0)]
def bk_W_tear_3 : List En := [(.aload_n 0, 1, 0, 0, [], g_0), (.getfield 18, 3, 7, 1, [291], g_0), (.iload_n 1, 1, 1, 0, [], g_0), (.iload_n 2, 1, 2, 0, [], g_0), (.invokevirtual 138, 3, 2, 2, [413, 414, 415, 68, 416], g_N_addTear), (.aload_n 0, 1, 0, 0, [], g_0), (.iconst 0, 1, 0, 0, [], g_0), (.putfield 67, 3, 7, 11, [301], g_0), (.aload_n 0, 1, 0, 0, [], g_0), (.getfield 18, 3, 7, 1, [291], g_0), (.getfield 135, 3, 2, 8, [160], g_0), (.ireturn, 1, 0, 0, [], g_0)]
def cd_W_tear : Cd := [(0, bk_W_tear_0), (18, bk_W_tear_1), (21, bk_W_tear_2), (36, bk_W_tear_3), (58, [])]
def Y_W_tear : Mth := (g_W_tear, RW, cd_W_tear)
set_option maxRecDepth 20000 in
theorem ok_W_tear : okM Y_W_tear = true := by decide +kernel
theorem en_W_tear {d : Nat} {u : Mem} {Q : Option MV → Mem → Prop} (as : List MV) (hc : cats as ≤ 3) (h : RunB d Y_W_tear 0 (argL as 3) [] u Q) : OKm d g_W_tear as u Q := OKm.of (Y := Y_W_tear) ok_W_tear hc h
theorem rb_W_tear_0 {d : Nat} {L : List (Option MV)} {st : List MV} {u : Mem} {Q : Option MV → Mem → Prop} (h : go d Y_W_tear Q bk_W_tear_0 0 L st u) : RunB (d + 1) Y_W_tear 0 L st u Q := run_go ok_W_tear (by decide) h
theorem rb_W_tear_1 {d : Nat} {L : List (Option MV)} {st : List MV} {u : Mem} {Q : Option MV → Mem → Prop} (h : go d Y_W_tear Q bk_W_tear_1 1 L st u) : RunB (d + 1) Y_W_tear 1 L st u Q := run_go ok_W_tear (by decide) h
theorem rb_W_tear_2 {d : Nat} {L : List (Option MV)} {st : List MV} {u : Mem} {Q : Option MV → Mem → Prop} (h : go d Y_W_tear Q bk_W_tear_2 2 L st u) : RunB (d + 1) Y_W_tear 2 L st u Q := run_go ok_W_tear (by decide) h
theorem rb_W_tear_3 {d : Nat} {L : List (Option MV)} {st : List MV} {u : Mem} {Q : Option MV → Mem → Prop} (h : go d Y_W_tear Q bk_W_tear_3 3 L st u) : RunB (d + 1) Y_W_tear 3 L st u Q := run_go ok_W_tear (by decide) h
def bk_W_back_0 : List En := [(.aload_n 0, 1, 0, 0, [], g_0), (.getfield 18, 3, 7, 1, [291], g_0), (.getfield 135, 3, 2, 8, [160], g_0), (.ifCond .ne 6, 3, 1, 0, [], g_0), (.bipush (-3), 2, 3, 1, [], g_0), (.ireturn, 1, 0, 0, [], g_0)]
def bk_W_back_1 : List En := [(.aload_n 0, 1, 0, 0, [], g_0), (.getfield 18, 3, 7, 1, [291], g_0), (.dup, 1, 0, 0, [], g_0), (.getfield 135, 3, 2, 8, [160], g_0), (.iconst 1, 1, 1, 0, [], g_0), (.isub, 1, 0, 0, [], g_0), (.putfield 135, 3, 2, 8, [160], g_0), (.aload_n 0, 1, 0, 0, [], g_0), (.iconst 0, 1, 0, 0, [], g_0), (.putfield 67, 3, 7, 11, [301], g_0), (.aload_n 0, 1, 0, 0, [], g_0), (.getfield 18, 3, 7, 1, [291], g_0), (.getfield 135, 3, 2, 8, [160], g_0), (.ireturn, 1, 0, 0, [], g_0)]
def cd_W_back : Cd := [(0, bk_W_back_0), (13, bk_W_back_1), (39, [])]
def Y_W_back : Mth := (g_W_back, RW, cd_W_back)
set_option maxRecDepth 20000 in
theorem ok_W_back : okM Y_W_back = true := by decide +kernel
theorem en_W_back {d : Nat} {u : Mem} {Q : Option MV → Mem → Prop} (as : List MV) (hc : cats as ≤ 1) (h : RunB d Y_W_back 0 (argL as 1) [] u Q) : OKm d g_W_back as u Q := OKm.of (Y := Y_W_back) ok_W_back hc h
theorem rb_W_back_0 {d : Nat} {L : List (Option MV)} {st : List MV} {u : Mem} {Q : Option MV → Mem → Prop} (h : go d Y_W_back Q bk_W_back_0 0 L st u) : RunB (d + 1) Y_W_back 0 L st u Q := run_go ok_W_back (by decide) h
theorem rb_W_back_1 {d : Nat} {L : List (Option MV)} {st : List MV} {u : Mem} {Q : Option MV → Mem → Prop} (h : go d Y_W_back Q bk_W_back_1 1 L st u) : RunB (d + 1) Y_W_back 1 L st u Q := run_go ok_W_back (by decide) h
def bk_W_read_0 : List En := [(.iload_n 1, 1, 1, 0, [], g_0), (.iconst 4, 1, 4, 0, [], g_0), (.invokestatic 80, 3, 2, 1, [334, 335, 0, 67, 336], g_W_isBelow), (.ifCond .ne 6, 3, 1, 0, [], g_0), (.bipush (-2), 2, 2, 1, [], g_0), (.ireturn, 1, 0, 0, [], g_0)]
def bk_W_read_1 : List En := [(.aload_n 0, 1, 0, 0, [], g_0), (.getfield 49, 3, 7, 6, [296], g_0), (.iload_n 1, 1, 1, 0, [], g_0), (.aaload, 1, 0, 0, [], g_0), (.astore_n 2, 1, 2, 0, [], g_0), (.aload_n 2, 1, 2, 0, [], g_0), (.getfield 142, 3, 3, 1, [276], g_0), (.ifCond .eq 9, 3, 2, 0, [], g_0), (.aload_n 0, 1, 0, 0, [], g_0), (.iconst 1, 1, 1, 0, [], g_0), (.invokevirtual 145, 3, 1, 7, [425, 427, 2, 67, 428], g_W_finding), (.ireturn, 1, 0, 0, [], g_0)]
def bk_W_read_2 : List En := [(.iconst 0, 1, 0, 0, [], g_0), (.istore_n 3, 1, 3, 0, [], g_0), (.iconst 0, 1, 0, 0, [], g_0), (.istore 4, 2, 4, 0, [], g_0)]
def bk_W_read_3 : List En := [(.iload 4, 2, 4, 0, [], g_0), (.iconst 1, 1, 1, 0, [], g_0), (.iadd, 1, 0, 0, [], g_0), (.aload_n 2, 1, 2, 0, [], g_0), (.getfield 148, 3, 3, 3, [280], g_0), (.if_icmp .ge 36, 3, 5, 0, [], g_0), (.aload_n 0, 1, 0, 0, [], g_0), (.aload_n 2, 1, 2, 0, [], g_0), (.iload 4, 2, 4, 0, [], g_0), (.invokevirtual 149, 3, 1, 3, [429, 430, 431, 76, 432], g_R_item), (.aload_n 2, 1, 2, 0, [], g_0), (.iload 4, 2, 4, 0, [], g_0), (.iconst 1, 1, 1, 0, [], g_0), (.iadd, 1, 0, 0, [], g_0), (.invokevirtual 149, 3, 1, 3, [429, 430, 431, 76, 432], g_R_item), (.invokevirtual 152, 3, 2, 7, [434, 410, 411, 67, 412], g_W_tear), (.ifCond .ge 6, 3, 4, 0, [], g_0), (.goto 12, 3, 5, 0, [], g_0)]
def bk_W_read_4 : List En := [(.iinc 3 1, 3, 3, 1, [0], g_0), (.iinc 4 2, 3, 4, 2, [0], g_0), (.goto (-41), 3, 3, 0, [], g_0)]
def bk_W_read_5 : List En := [(.iload_n 3, 1, 3, 0, [], g_0), (.ireturn, 1, 0, 0, [], g_0)]
def cd_W_read : Cd := [(0, bk_W_read_0), (11, bk_W_read_1), (31, bk_W_read_2), (36, bk_W_read_3), (71, bk_W_read_4), (80, bk_W_read_5), (82, [])]
def Y_W_read : Mth := (g_W_read, RW, cd_W_read)
set_option maxRecDepth 20000 in
theorem ok_W_read : okM Y_W_read = true := by decide +kernel
theorem en_W_read {d : Nat} {u : Mem} {Q : Option MV → Mem → Prop} (as : List MV) (hc : cats as ≤ 5) (h : RunB d Y_W_read 0 (argL as 5) [] u Q) : OKm d g_W_read as u Q := OKm.of (Y := Y_W_read) ok_W_read hc h
theorem rb_W_read_0 {d : Nat} {L : List (Option MV)} {st : List MV} {u : Mem} {Q : Option MV → Mem → Prop} (h : go d Y_W_read Q bk_W_read_0 0 L st u) : RunB (d + 1) Y_W_read 0 L st u Q := run_go ok_W_read (by decide) h
theorem rb_W_read_1 {d : Nat} {L : List (Option MV)} {st : List MV} {u : Mem} {Q : Option MV → Mem → Prop} (h : go d Y_W_read Q bk_W_read_1 1 L st u) : RunB (d + 1) Y_W_read 1 L st u Q := run_go ok_W_read (by decide) h
theorem rb_W_read_2 {d : Nat} {L : List (Option MV)} {st : List MV} {u : Mem} {Q : Option MV → Mem → Prop} (h : go d Y_W_read Q bk_W_read_2 2 L st u) : RunB (d + 1) Y_W_read 2 L st u Q := run_go ok_W_read (by decide) h
theorem rb_W_read_3 {d : Nat} {L : List (Option MV)} {st : List MV} {u : Mem} {Q : Option MV → Mem → Prop} (h : go d Y_W_read Q bk_W_read_3 3 L st u) : RunB (d + 1) Y_W_read 3 L st u Q := run_go ok_W_read (by decide) h
theorem rb_W_read_4 {d : Nat} {L : List (Option MV)} {st : List MV} {u : Mem} {Q : Option MV → Mem → Prop} (h : go d Y_W_read Q bk_W_read_4 4 L st u) : RunB (d + 1) Y_W_read 4 L st u Q := run_go ok_W_read (by decide) h
theorem rb_W_read_5 {d : Nat} {L : List (Option MV)} {st : List MV} {u : Mem} {Q : Option MV → Mem → Prop} (h : go d Y_W_read Q bk_W_read_5 5 L st u) : RunB (d + 1) Y_W_read 5 L st u Q := run_go ok_W_read (by decide) h
def bk_W_at_0 : List En := [(.iload_n 1, 1, 1, 0, [], g_0), (.bipush 20, 2, 20, 0, [], g_0), (.invokestatic 80, 3, 2, 1, [334, 335, 0, 67, 336], g_W_isBelow), (.ifCond .eq 21, 3, 1, 0, [], g_0), (.iload_n 2, 1, 2, 0, [], g_0), (.bipush 6, 2, 6, 0, [], g_0), (.invokestatic 80, 3, 2, 1, [334, 335, 0, 67, 336], g_W_isBelow), (.ifCond .eq 12, 3, 1, 0, [], g_0), (.iload_n 3, 1, 3, 0, [], g_0), (.bipush 6, 2, 6, 0, [], g_0), (.invokestatic 80, 3, 2, 1, [334, 335, 0, 67, 336], g_W_isBelow), (.ifCond .ne 6, 3, 2, 0, [], g_0)]
def bk_W_at_1 : List En := [(.bipush (-2), 2, 2, 1, [], g_0), (.ireturn, 1, 0, 0, [], g_0)]
def bk_W_at_2 : List En := [(.aload_n 0, 1, 0, 0, [], g_0), (.invokevirtual 156, 3, 0, 7, [439, 441, 3, 67, 442], g_W_playTold), (.aload_n 0, 1, 0, 0, [], g_0), (.getfield 27, 3, 7, 2, [292], g_0), (.iload_n 1, 1, 1, 0, [], g_0), (.iload_n 2, 1, 2, 0, [], g_0), (.iload_n 3, 1, 3, 0, [], g_0), (.invokevirtual 159, 3, 3, 5, [477, 478, 479, 71, 480], g_T_fact), (.ireturn, 1, 0, 0, [], g_0)]
def cd_W_at : Cd := [(0, bk_W_at_0), (27, bk_W_at_1), (30, bk_W_at_2), (45, [])]
def Y_W_at : Mth := (g_W_at, RW, cd_W_at)
set_option maxRecDepth 20000 in
theorem ok_W_at : okM Y_W_at = true := by decide +kernel
theorem en_W_at {d : Nat} {u : Mem} {Q : Option MV → Mem → Prop} (as : List MV) (hc : cats as ≤ 4) (h : RunB d Y_W_at 0 (argL as 4) [] u Q) : OKm d g_W_at as u Q := OKm.of (Y := Y_W_at) ok_W_at hc h
theorem rb_W_at_0 {d : Nat} {L : List (Option MV)} {st : List MV} {u : Mem} {Q : Option MV → Mem → Prop} (h : go d Y_W_at Q bk_W_at_0 0 L st u) : RunB (d + 1) Y_W_at 0 L st u Q := run_go ok_W_at (by decide) h
theorem rb_W_at_1 {d : Nat} {L : List (Option MV)} {st : List MV} {u : Mem} {Q : Option MV → Mem → Prop} (h : go d Y_W_at Q bk_W_at_1 1 L st u) : RunB (d + 1) Y_W_at 1 L st u Q := run_go ok_W_at (by decide) h
theorem rb_W_at_2 {d : Nat} {L : List (Option MV)} {st : List MV} {u : Mem} {Q : Option MV → Mem → Prop} (h : go d Y_W_at Q bk_W_at_2 2 L st u) : RunB (d + 1) Y_W_at 2 L st u Q := run_go ok_W_at (by decide) h
def bk_W_obeyed_0 : List En := [(.iload_n 1, 1, 1, 0, [], g_0), (.bipush 20, 2, 20, 0, [], g_0), (.invokestatic 80, 3, 2, 1, [334, 335, 0, 67, 336], g_W_isBelow), (.ifCond .ne 6, 3, 1, 0, [], g_0), (.bipush (-2), 2, 2, 1, [], g_0), (.ireturn, 1, 0, 0, [], g_0)]
def bk_W_obeyed_1 : List En := [(.aload_n 0, 1, 0, 0, [], g_0), (.invokevirtual 156, 3, 0, 7, [439, 441, 3, 67, 442], g_W_playTold), (.aload_n 0, 1, 0, 0, [], g_0), (.getfield 27, 3, 7, 2, [292], g_0), (.iload_n 1, 1, 1, 0, [], g_0), (.invokevirtual 163, 3, 1, 5, [486, 487, 488, 71, 489], g_T_obeys), (.ifCond .eq 7, 3, 2, 0, [], g_0), (.iconst 1, 1, 1, 0, [], g_0), (.goto 4, 3, 3, 0, [], g_0)]
def bk_W_obeyed_2 : List En := [(.iconst 0, 1, 0, 0, [], g_0)]
def bk_W_obeyed_3 : List En := [(.ireturn, 1, 0, 0, [], g_0)]
def cd_W_obeyed : Cd := [(0, bk_W_obeyed_0), (12, bk_W_obeyed_1), (31, bk_W_obeyed_2), (32, bk_W_obeyed_3), (33, [])]
def Y_W_obeyed : Mth := (g_W_obeyed, RW, cd_W_obeyed)
set_option maxRecDepth 20000 in
theorem ok_W_obeyed : okM Y_W_obeyed = true := by decide +kernel
theorem en_W_obeyed {d : Nat} {u : Mem} {Q : Option MV → Mem → Prop} (as : List MV) (hc : cats as ≤ 2) (h : RunB d Y_W_obeyed 0 (argL as 2) [] u Q) : OKm d g_W_obeyed as u Q := OKm.of (Y := Y_W_obeyed) ok_W_obeyed hc h
theorem rb_W_obeyed_0 {d : Nat} {L : List (Option MV)} {st : List MV} {u : Mem} {Q : Option MV → Mem → Prop} (h : go d Y_W_obeyed Q bk_W_obeyed_0 0 L st u) : RunB (d + 1) Y_W_obeyed 0 L st u Q := run_go ok_W_obeyed (by decide) h
theorem rb_W_obeyed_1 {d : Nat} {L : List (Option MV)} {st : List MV} {u : Mem} {Q : Option MV → Mem → Prop} (h : go d Y_W_obeyed Q bk_W_obeyed_1 1 L st u) : RunB (d + 1) Y_W_obeyed 1 L st u Q := run_go ok_W_obeyed (by decide) h
theorem rb_W_obeyed_2 {d : Nat} {L : List (Option MV)} {st : List MV} {u : Mem} {Q : Option MV → Mem → Prop} (h : go d Y_W_obeyed Q bk_W_obeyed_2 2 L st u) : RunB (d + 1) Y_W_obeyed 2 L st u Q := run_go ok_W_obeyed (by decide) h
theorem rb_W_obeyed_3 {d : Nat} {L : List (Option MV)} {st : List MV} {u : Mem} {Q : Option MV → Mem → Prop} (h : go d Y_W_obeyed Q bk_W_obeyed_3 3 L st u) : RunB (d + 1) Y_W_obeyed 3 L st u Q := run_go ok_W_obeyed (by decide) h
def bk_W_days_0 : List En := [(.iload_n 1, 1, 1, 0, [], g_0), (.iconst 2, 1, 2, 0, [], g_0), (.invokestatic 80, 3, 2, 1, [334, 335, 0, 67, 336], g_W_isBelow), (.ifCond .ne 6, 3, 1, 0, [], g_0), (.bipush (-2), 2, 2, 1, [], g_0), (.ireturn, 1, 0, 0, [], g_0)]
def bk_W_days_1 : List En := [(.aload_n 0, 1, 0, 0, [], g_0), (.invokevirtual 156, 3, 0, 7, [439, 441, 3, 67, 442], g_W_playTold), (.iload_n 1, 1, 1, 0, [], g_0), (.ifCond .ne 11, 3, 2, 0, [], g_0), (.aload_n 0, 1, 0, 0, [], g_0), (.getfield 27, 3, 7, 2, [292], g_0), (.invokevirtual 167, 3, 0, 5, [495, 496, 497, 71, 498], g_T_daysObeyed), (.ireturn, 1, 0, 0, [], g_0)]
def bk_W_days_2 : List En := [(.iconst 0, 1, 0, 0, [], g_0), (.istore_n 2, 1, 2, 0, [], g_0)]
def bk_W_days_3 : List En := [(.iload_n 2, 1, 2, 0, [], g_0), (.bipush 20, 2, 20, 0, [], g_0), (.if_icmp .ge 22, 3, 5, 0, [], g_0), (.aload_n 0, 1, 0, 0, [], g_0), (.getfield 27, 3, 7, 2, [292], g_0), (.iload_n 2, 1, 2, 0, [], g_0), (.invokevirtual 163, 3, 1, 5, [486, 487, 488, 71, 489], g_T_obeys), (.ifCond .eq 5, 3, 4, 0, [], g_0), (.iload_n 2, 1, 2, 0, [], g_0), (.ireturn, 1, 0, 0, [], g_0)]
def bk_W_days_4 : List En := [(.iinc 2 1, 3, 2, 1, [0], g_0), (.goto (-22), 3, 3, 0, [], g_0)]
def bk_W_days_5 : List En := [(.iconst (-1), 1, 1, 1, [], g_0), (.ireturn, 1, 0, 0, [], g_0)]
def cd_W_days : Cd := [(0, bk_W_days_0), (11, bk_W_days_1), (27, bk_W_days_2), (29, bk_W_days_3), (48, bk_W_days_4), (54, bk_W_days_5), (56, [])]
def Y_W_days : Mth := (g_W_days, RW, cd_W_days)
set_option maxRecDepth 20000 in
theorem ok_W_days : okM Y_W_days = true := by decide +kernel
theorem en_W_days {d : Nat} {u : Mem} {Q : Option MV → Mem → Prop} (as : List MV) (hc : cats as ≤ 3) (h : RunB d Y_W_days 0 (argL as 3) [] u Q) : OKm d g_W_days as u Q := OKm.of (Y := Y_W_days) ok_W_days hc h
theorem rb_W_days_0 {d : Nat} {L : List (Option MV)} {st : List MV} {u : Mem} {Q : Option MV → Mem → Prop} (h : go d Y_W_days Q bk_W_days_0 0 L st u) : RunB (d + 1) Y_W_days 0 L st u Q := run_go ok_W_days (by decide) h
theorem rb_W_days_1 {d : Nat} {L : List (Option MV)} {st : List MV} {u : Mem} {Q : Option MV → Mem → Prop} (h : go d Y_W_days Q bk_W_days_1 1 L st u) : RunB (d + 1) Y_W_days 1 L st u Q := run_go ok_W_days (by decide) h
theorem rb_W_days_2 {d : Nat} {L : List (Option MV)} {st : List MV} {u : Mem} {Q : Option MV → Mem → Prop} (h : go d Y_W_days Q bk_W_days_2 2 L st u) : RunB (d + 1) Y_W_days 2 L st u Q := run_go ok_W_days (by decide) h
theorem rb_W_days_3 {d : Nat} {L : List (Option MV)} {st : List MV} {u : Mem} {Q : Option MV → Mem → Prop} (h : go d Y_W_days Q bk_W_days_3 3 L st u) : RunB (d + 1) Y_W_days 3 L st u Q := run_go ok_W_days (by decide) h
theorem rb_W_days_4 {d : Nat} {L : List (Option MV)} {st : List MV} {u : Mem} {Q : Option MV → Mem → Prop} (h : go d Y_W_days Q bk_W_days_4 4 L st u) : RunB (d + 1) Y_W_days 4 L st u Q := run_go ok_W_days (by decide) h
theorem rb_W_days_5 {d : Nat} {L : List (Option MV)} {st : List MV} {u : Mem} {Q : Option MV → Mem → Prop} (h : go d Y_W_days Q bk_W_days_5 5 L st u) : RunB (d + 1) Y_W_days 5 L st u Q := run_go ok_W_days (by decide) h
def bk_W_unread_0 : List En := [(.aload_n 0, 1, 0, 0, [], g_0), (.invokevirtual 156, 3, 0, 7, [439, 441, 3, 67, 442], g_W_playTold), (.aload_n 0, 1, 0, 0, [], g_0), (.getfield 27, 3, 7, 2, [292], g_0), (.invokevirtual 171, 3, 0, 5, [504, 505, 506, 71, 507], g_T_unreadBills), (.ireturn, 1, 0, 0, [], g_0)]
def cd_W_unread : Cd := [(0, bk_W_unread_0), (12, [])]
def Y_W_unread : Mth := (g_W_unread, RW, cd_W_unread)
set_option maxRecDepth 20000 in
theorem ok_W_unread : okM Y_W_unread = true := by decide +kernel
theorem en_W_unread {d : Nat} {u : Mem} {Q : Option MV → Mem → Prop} (as : List MV) (hc : cats as ≤ 1) (h : RunB d Y_W_unread 0 (argL as 1) [] u Q) : OKm d g_W_unread as u Q := OKm.of (Y := Y_W_unread) ok_W_unread hc h
theorem rb_W_unread_0 {d : Nat} {L : List (Option MV)} {st : List MV} {u : Mem} {Q : Option MV → Mem → Prop} (h : go d Y_W_unread Q bk_W_unread_0 0 L st u) : RunB (d + 1) Y_W_unread 0 L st u Q := run_go ok_W_unread (by decide) h
def bk_W_often_0 : List En := [(.aload_n 0, 1, 0, 0, [], g_0), (.invokevirtual 156, 3, 0, 7, [439, 441, 3, 67, 442], g_W_playTold), (.iconst (-1), 1, 1, 1, [], g_0), (.istore_n 1, 1, 1, 0, [], g_0), (.iconst (-1), 1, 1, 1, [], g_0), (.istore_n 2, 1, 2, 0, [], g_0), (.iconst 0, 1, 0, 0, [], g_0), (.istore_n 3, 1, 3, 0, [], g_0)]
def bk_W_often_1 : List En := [(.iload_n 3, 1, 3, 0, [], g_0), (.aload_n 0, 1, 0, 0, [], g_0), (.getfield 18, 3, 7, 1, [291], g_0), (.getfield 103, 3, 2, 5, [152], g_0), (.if_icmp .ge 30, 3, 3, 0, [], g_0), (.aload_n 0, 1, 0, 0, [], g_0), (.getfield 27, 3, 7, 2, [292], g_0), (.iload_n 3, 1, 3, 0, [], g_0), (.invokevirtual 174, 3, 1, 5, [520, 509, 510, 71, 511], g_T_daysRead), (.istore 4, 2, 4, 0, [], g_0), (.iload 4, 2, 4, 0, [], g_0), (.iload_n 2, 1, 2, 0, [], g_0), (.if_icmp .le 8, 3, 2, 0, [], g_0), (.iload 4, 2, 4, 0, [], g_0), (.istore_n 2, 1, 2, 0, [], g_0), (.iload_n 3, 1, 3, 0, [], g_0), (.istore_n 1, 1, 1, 0, [], g_0)]
def bk_W_often_2 : List En := [(.iinc 3 1, 3, 3, 1, [0], g_0), (.goto (-35), 3, 1, 0, [], g_0)]
def bk_W_often_3 : List En := [(.iload_n 1, 1, 1, 0, [], g_0), (.ireturn, 1, 0, 0, [], g_0)]
def cd_W_often : Cd := [(0, bk_W_often_0), (10, bk_W_often_1), (42, bk_W_often_2), (48, bk_W_often_3), (50, [])]
def Y_W_often : Mth := (g_W_often, RW, cd_W_often)
set_option maxRecDepth 20000 in
theorem ok_W_often : okM Y_W_often = true := by decide +kernel
theorem en_W_often {d : Nat} {u : Mem} {Q : Option MV → Mem → Prop} (as : List MV) (hc : cats as ≤ 5) (h : RunB d Y_W_often 0 (argL as 5) [] u Q) : OKm d g_W_often as u Q := OKm.of (Y := Y_W_often) ok_W_often hc h
theorem rb_W_often_0 {d : Nat} {L : List (Option MV)} {st : List MV} {u : Mem} {Q : Option MV → Mem → Prop} (h : go d Y_W_often Q bk_W_often_0 0 L st u) : RunB (d + 1) Y_W_often 0 L st u Q := run_go ok_W_often (by decide) h
theorem rb_W_often_1 {d : Nat} {L : List (Option MV)} {st : List MV} {u : Mem} {Q : Option MV → Mem → Prop} (h : go d Y_W_often Q bk_W_often_1 1 L st u) : RunB (d + 1) Y_W_often 1 L st u Q := run_go ok_W_often (by decide) h
theorem rb_W_often_2 {d : Nat} {L : List (Option MV)} {st : List MV} {u : Mem} {Q : Option MV → Mem → Prop} (h : go d Y_W_often Q bk_W_often_2 2 L st u) : RunB (d + 1) Y_W_often 2 L st u Q := run_go ok_W_often (by decide) h
theorem rb_W_often_3 {d : Nat} {L : List (Option MV)} {st : List MV} {u : Mem} {Q : Option MV → Mem → Prop} (h : go d Y_W_often Q bk_W_often_3 3 L st u) : RunB (d + 1) Y_W_often 3 L st u Q := run_go ok_W_often (by decide) h
def bk_W_rip_0 : List En := [(.iload_n 1, 1, 1, 0, [], g_0), (.bipush 20, 2, 20, 0, [], g_0), (.invokestatic 80, 3, 2, 1, [334, 335, 0, 67, 336], g_W_isBelow), (.ifCond .eq 13, 3, 1, 0, [], g_0), (.iload_n 2, 1, 2, 0, [], g_0), (.iconst (-1), 1, 1, 1, [], g_0), (.if_icmp .lt 8, 3, 1, 0, [], g_0), (.iload_n 2, 1, 2, 0, [], g_0), (.iconst 2, 1, 2, 0, [], g_0), (.if_icmp .lt 6, 3, 2, 0, [], g_0)]
def bk_W_rip_1 : List En := [(.bipush (-2), 2, 2, 1, [], g_0), (.ireturn, 1, 0, 0, [], g_0)]
def bk_W_rip_2 : List En := [(.aload_n 0, 1, 0, 0, [], g_0), (.iload_n 1, 1, 1, 0, [], g_0), (.invokevirtual 177, 3, 1, 7, [525, 527, 8, 67, 528], g_W_findRip), (.aload_n 0, 1, 0, 0, [], g_0), (.getfield 60, 3, 7, 9, [299], g_0), (.iload_n 2, 1, 2, 0, [], g_0), (.iconst 1, 1, 1, 0, [], g_0), (.iadd, 1, 0, 0, [], g_0), (.iaload, 1, 0, 0, [], g_0), (.ireturn, 1, 0, 0, [], g_0)]
def cd_W_rip : Cd := [(0, bk_W_rip_0), (19, bk_W_rip_1), (22, bk_W_rip_2), (36, [])]
def Y_W_rip : Mth := (g_W_rip, RW, cd_W_rip)
set_option maxRecDepth 20000 in
theorem ok_W_rip : okM Y_W_rip = true := by decide +kernel
theorem en_W_rip {d : Nat} {u : Mem} {Q : Option MV → Mem → Prop} (as : List MV) (hc : cats as ≤ 3) (h : RunB d Y_W_rip 0 (argL as 3) [] u Q) : OKm d g_W_rip as u Q := OKm.of (Y := Y_W_rip) ok_W_rip hc h
theorem rb_W_rip_0 {d : Nat} {L : List (Option MV)} {st : List MV} {u : Mem} {Q : Option MV → Mem → Prop} (h : go d Y_W_rip Q bk_W_rip_0 0 L st u) : RunB (d + 1) Y_W_rip 0 L st u Q := run_go ok_W_rip (by decide) h
theorem rb_W_rip_1 {d : Nat} {L : List (Option MV)} {st : List MV} {u : Mem} {Q : Option MV → Mem → Prop} (h : go d Y_W_rip Q bk_W_rip_1 1 L st u) : RunB (d + 1) Y_W_rip 1 L st u Q := run_go ok_W_rip (by decide) h
theorem rb_W_rip_2 {d : Nat} {L : List (Option MV)} {st : List MV} {u : Mem} {Q : Option MV → Mem → Prop} (h : go d Y_W_rip Q bk_W_rip_2 2 L st u) : RunB (d + 1) Y_W_rip 2 L st u Q := run_go ok_W_rip (by decide) h
def bk_W_wet_0 : List En := [(.iload_n 1, 1, 1, 0, [], g_0), (.bipush 20, 2, 20, 0, [], g_0), (.invokestatic 80, 3, 2, 1, [334, 335, 0, 67, 336], g_W_isBelow), (.ifCond .ne 6, 3, 1, 0, [], g_0), (.bipush (-2), 2, 2, 1, [], g_0), (.ireturn, 1, 0, 0, [], g_0)]
def bk_W_wet_1 : List En := [(.aload_n 0, 1, 0, 0, [], g_0), (.iload_n 1, 1, 1, 0, [], g_0), (.invokevirtual 180, 3, 1, 7, [529, 531, 9, 67, 532], g_W_playAhead), (.iconst 0, 1, 0, 0, [], g_0), (.istore_n 2, 1, 2, 0, [], g_0), (.iconst 0, 1, 0, 0, [], g_0), (.istore_n 3, 1, 3, 0, [], g_0)]
def bk_W_wet_2 : List En := [(.iload_n 3, 1, 3, 0, [], g_0), (.bipush 9, 2, 9, 0, [], g_0), (.if_icmp .gt 51, 3, 4, 0, [], g_0), (.aload_n 0, 1, 0, 0, [], g_0), (.getfield 31, 3, 7, 3, [293], g_0), (.getfield 183, 3, 5, 1, [212], g_0), (.aload_n 0, 1, 0, 0, [], g_0), (.getfield 36, 3, 7, 4, [294], g_0), (.iconst 0, 1, 0, 0, [], g_0), (.aaload, 1, 0, 0, [], g_0), (.invokevirtual 187, 3, 1, 1, [533, 534, 535, 72, 536], g_P_become), (.aload_n 0, 1, 0, 0, [], g_0), (.getfield 31, 3, 7, 3, [293], g_0), (.iload_n 1, 1, 1, 0, [], g_0), (.iload_n 3, 1, 3, 0, [], g_0), (.invokevirtual 191, 3, 2, 5, [544, 453, 454, 71, 455], g_T_play), (.aload_n 0, 1, 0, 0, [], g_0), (.getfield 31, 3, 7, 3, [293], g_0), (.iload_n 1, 1, 1, 0, [], g_0), (.invokevirtual 163, 3, 1, 5, [486, 487, 488, 71, 489], g_T_obeys), (.ifCond .eq 9, 3, 3, 0, [], g_0), (.iload_n 2, 1, 2, 0, [], g_0), (.iconst 1, 1, 1, 0, [], g_0), (.iload_n 3, 1, 3, 0, [], g_0), (.ishl, 1, 0, 0, [], g_0), (.ior, 1, 0, 0, [], g_0), (.istore_n 2, 1, 2, 0, [], g_0)]
def bk_W_wet_3 : List En := [(.iinc 3 1, 3, 3, 1, [0], g_0), (.goto (-51), 3, 2, 0, [], g_0)]
def bk_W_wet_4 : List En := [(.iload_n 2, 1, 2, 0, [], g_0), (.ireturn, 1, 0, 0, [], g_0)]
def cd_W_wet : Cd := [(0, bk_W_wet_0), (12, bk_W_wet_1), (21, bk_W_wet_2), (69, bk_W_wet_3), (75, bk_W_wet_4), (77, [])]
def Y_W_wet : Mth := (g_W_wet, RW, cd_W_wet)
set_option maxRecDepth 20000 in
theorem ok_W_wet : okM Y_W_wet = true := by decide +kernel
theorem en_W_wet {d : Nat} {u : Mem} {Q : Option MV → Mem → Prop} (as : List MV) (hc : cats as ≤ 4) (h : RunB d Y_W_wet 0 (argL as 4) [] u Q) : OKm d g_W_wet as u Q := OKm.of (Y := Y_W_wet) ok_W_wet hc h
theorem rb_W_wet_0 {d : Nat} {L : List (Option MV)} {st : List MV} {u : Mem} {Q : Option MV → Mem → Prop} (h : go d Y_W_wet Q bk_W_wet_0 0 L st u) : RunB (d + 1) Y_W_wet 0 L st u Q := run_go ok_W_wet (by decide) h
theorem rb_W_wet_1 {d : Nat} {L : List (Option MV)} {st : List MV} {u : Mem} {Q : Option MV → Mem → Prop} (h : go d Y_W_wet Q bk_W_wet_1 1 L st u) : RunB (d + 1) Y_W_wet 1 L st u Q := run_go ok_W_wet (by decide) h
theorem rb_W_wet_2 {d : Nat} {L : List (Option MV)} {st : List MV} {u : Mem} {Q : Option MV → Mem → Prop} (h : go d Y_W_wet Q bk_W_wet_2 2 L st u) : RunB (d + 1) Y_W_wet 2 L st u Q := run_go ok_W_wet (by decide) h
theorem rb_W_wet_3 {d : Nat} {L : List (Option MV)} {st : List MV} {u : Mem} {Q : Option MV → Mem → Prop} (h : go d Y_W_wet Q bk_W_wet_3 3 L st u) : RunB (d + 1) Y_W_wet 3 L st u Q := run_go ok_W_wet (by decide) h
theorem rb_W_wet_4 {d : Nat} {L : List (Option MV)} {st : List MV} {u : Mem} {Q : Option MV → Mem → Prop} (h : go d Y_W_wet Q bk_W_wet_4 4 L st u) : RunB (d + 1) Y_W_wet 4 L st u Q := run_go ok_W_wet (by decide) h
def bk_W_paste_0 : List En := [(.iload_n 1, 1, 1, 0, [], g_0), (.aload_n 0, 1, 0, 0, [], g_0), (.getfield 18, 3, 7, 1, [291], g_0), (.getfield 103, 3, 2, 5, [152], g_0), (.invokestatic 80, 3, 2, 1, [334, 335, 0, 67, 336], g_W_isBelow), (.ifCond .eq 11, 3, 1, 0, [], g_0), (.iload_n 2, 1, 2, 0, [], g_0), (.iconst 2, 1, 2, 0, [], g_0), (.invokestatic 80, 3, 2, 1, [334, 335, 0, 67, 336], g_W_isBelow), (.ifCond .ne 6, 3, 2, 0, [], g_0)]
def bk_W_paste_1 : List En := [(.bipush (-2), 2, 2, 1, [], g_0), (.ireturn, 1, 0, 0, [], g_0)]
def bk_W_paste_2 : List En := [(.aload_n 0, 1, 0, 0, [], g_0), (.aload_n 0, 1, 0, 0, [], g_0), (.getfield 18, 3, 7, 1, [291], g_0), (.getfield 106, 3, 2, 0, [140], g_0), (.iload_n 1, 1, 1, 0, [], g_0), (.aaload, 1, 0, 0, [], g_0), (.invokevirtual 194, 3, 1, 7, [557, 559, 12, 67, 560], g_W_findPaste), (.aload_n 0, 1, 0, 0, [], g_0), (.getfield 60, 3, 7, 9, [299], g_0), (.iload_n 2, 1, 2, 0, [], g_0), (.iaload, 1, 0, 0, [], g_0), (.ireturn, 1, 0, 0, [], g_0)]
def cd_W_paste : Cd := [(0, bk_W_paste_0), (22, bk_W_paste_1), (25, bk_W_paste_2), (45, [])]
def Y_W_paste : Mth := (g_W_paste, RW, cd_W_paste)
set_option maxRecDepth 20000 in
theorem ok_W_paste : okM Y_W_paste = true := by decide +kernel
theorem en_W_paste {d : Nat} {u : Mem} {Q : Option MV → Mem → Prop} (as : List MV) (hc : cats as ≤ 3) (h : RunB d Y_W_paste 0 (argL as 3) [] u Q) : OKm d g_W_paste as u Q := OKm.of (Y := Y_W_paste) ok_W_paste hc h
theorem rb_W_paste_0 {d : Nat} {L : List (Option MV)} {st : List MV} {u : Mem} {Q : Option MV → Mem → Prop} (h : go d Y_W_paste Q bk_W_paste_0 0 L st u) : RunB (d + 1) Y_W_paste 0 L st u Q := run_go ok_W_paste (by decide) h
theorem rb_W_paste_1 {d : Nat} {L : List (Option MV)} {st : List MV} {u : Mem} {Q : Option MV → Mem → Prop} (h : go d Y_W_paste Q bk_W_paste_1 1 L st u) : RunB (d + 1) Y_W_paste 1 L st u Q := run_go ok_W_paste (by decide) h
theorem rb_W_paste_2 {d : Nat} {L : List (Option MV)} {st : List MV} {u : Mem} {Q : Option MV → Mem → Prop} (h : go d Y_W_paste Q bk_W_paste_2 2 L st u) : RunB (d + 1) Y_W_paste 2 L st u Q := run_go ok_W_paste (by decide) h
def bk_W_stick_0 : List En := [(.iload_n 1, 1, 1, 0, [], g_0), (.aload_n 0, 1, 0, 0, [], g_0), (.getfield 18, 3, 7, 1, [291], g_0), (.getfield 103, 3, 2, 5, [152], g_0), (.invokestatic 80, 3, 2, 1, [334, 335, 0, 67, 336], g_W_isBelow), (.ifCond .eq 11, 3, 1, 0, [], g_0), (.iload_n 2, 1, 2, 0, [], g_0), (.iconst 3, 1, 3, 0, [], g_0), (.invokestatic 80, 3, 2, 1, [334, 335, 0, 67, 336], g_W_isBelow), (.ifCond .ne 6, 3, 2, 0, [], g_0)]
def bk_W_stick_1 : List En := [(.bipush (-2), 2, 2, 1, [], g_0), (.ireturn, 1, 0, 0, [], g_0)]
def bk_W_stick_2 : List En := [(.aload_n 0, 1, 0, 0, [], g_0), (.aload_n 0, 1, 0, 0, [], g_0), (.getfield 18, 3, 7, 1, [291], g_0), (.getfield 106, 3, 2, 0, [140], g_0), (.iload_n 1, 1, 1, 0, [], g_0), (.aaload, 1, 0, 0, [], g_0), (.invokevirtual 198, 3, 1, 7, [565, 567, 13, 67, 568], g_W_findStick), (.aload_n 0, 1, 0, 0, [], g_0), (.getfield 60, 3, 7, 9, [299], g_0), (.iload_n 2, 1, 2, 0, [], g_0), (.iaload, 1, 0, 0, [], g_0), (.ireturn, 1, 0, 0, [], g_0)]
def cd_W_stick : Cd := [(0, bk_W_stick_0), (22, bk_W_stick_1), (25, bk_W_stick_2), (45, [])]
def Y_W_stick : Mth := (g_W_stick, RW, cd_W_stick)
set_option maxRecDepth 20000 in
theorem ok_W_stick : okM Y_W_stick = true := by decide +kernel
theorem en_W_stick {d : Nat} {u : Mem} {Q : Option MV → Mem → Prop} (as : List MV) (hc : cats as ≤ 3) (h : RunB d Y_W_stick 0 (argL as 3) [] u Q) : OKm d g_W_stick as u Q := OKm.of (Y := Y_W_stick) ok_W_stick hc h
theorem rb_W_stick_0 {d : Nat} {L : List (Option MV)} {st : List MV} {u : Mem} {Q : Option MV → Mem → Prop} (h : go d Y_W_stick Q bk_W_stick_0 0 L st u) : RunB (d + 1) Y_W_stick 0 L st u Q := run_go ok_W_stick (by decide) h
theorem rb_W_stick_1 {d : Nat} {L : List (Option MV)} {st : List MV} {u : Mem} {Q : Option MV → Mem → Prop} (h : go d Y_W_stick Q bk_W_stick_1 1 L st u) : RunB (d + 1) Y_W_stick 1 L st u Q := run_go ok_W_stick (by decide) h
theorem rb_W_stick_2 {d : Nat} {L : List (Option MV)} {st : List MV} {u : Mem} {Q : Option MV → Mem → Prop} (h : go d Y_W_stick Q bk_W_stick_2 2 L st u) : RunB (d + 1) Y_W_stick 2 L st u Q := run_go ok_W_stick (by decide) h
def bk_W_seen_0 : List En := [(.iload_n 1, 1, 1, 0, [], g_0), (.bipush 20, 2, 20, 0, [], g_0), (.invokestatic 80, 3, 2, 1, [334, 335, 0, 67, 336], g_W_isBelow), (.ifCond .eq 21, 3, 1, 0, [], g_0), (.iload_n 2, 1, 2, 0, [], g_0), (.bipush 6, 2, 6, 0, [], g_0), (.invokestatic 80, 3, 2, 1, [334, 335, 0, 67, 336], g_W_isBelow), (.ifCond .eq 12, 3, 1, 0, [], g_0), (.iload_n 3, 1, 3, 0, [], g_0), (.bipush 9, 2, 9, 0, [], g_0), (.invokestatic 80, 3, 2, 1, [334, 335, 0, 67, 336], g_W_isBelow), (.ifCond .ne 6, 3, 2, 0, [], g_0)]
def bk_W_seen_1 : List En := [(.bipush (-2), 2, 2, 1, [], g_0), (.ireturn, 1, 0, 0, [], g_0)]
def bk_W_seen_2 : List En := [(.aload_n 0, 1, 0, 0, [], g_0), (.getfield 43, 3, 7, 5, [295], g_0), (.getfield 201, 3, 4, 3, [233], g_0), (.bipush 8, 2, 8, 0, [], g_0), (.if_icmp .lt 6, 3, 3, 0, [], g_0), (.bipush (-4), 2, 4, 1, [], g_0), (.ireturn, 1, 0, 0, [], g_0)]
def bk_W_seen_3 : List En := [(.aload_n 0, 1, 0, 0, [], g_0), (.getfield 43, 3, 7, 5, [295], g_0), (.iload_n 1, 1, 1, 0, [], g_0), (.iload_n 2, 1, 2, 0, [], g_0), (.iload_n 3, 1, 3, 0, [], g_0), (.bipush 8, 2, 8, 0, [], g_0), (.if_icmp .ge 7, 3, 4, 0, [], g_0), (.iload_n 3, 1, 3, 0, [], g_0), (.goto 4, 3, 5, 0, [], g_0)]
def bk_W_seen_4 : List En := [(.iconst (-1), 1, 1, 1, [], g_0)]
def bk_W_seen_5 : List En := [(.invokevirtual 204, 3, 3, 4, [577, 578, 579, 73, 580], g_S_add), (.aload_n 0, 1, 0, 0, [], g_0), (.getfield 43, 3, 7, 5, [295], g_0), (.getfield 201, 3, 4, 3, [233], g_0), (.ireturn, 1, 0, 0, [], g_0)]
def cd_W_seen : Cd := [(0, bk_W_seen_0), (27, bk_W_seen_1), (30, bk_W_seen_2), (45, bk_W_seen_3), (61, bk_W_seen_4), (62, bk_W_seen_5), (73, [])]
def Y_W_seen : Mth := (g_W_seen, RW, cd_W_seen)
set_option maxRecDepth 20000 in
theorem ok_W_seen : okM Y_W_seen = true := by decide +kernel
theorem en_W_seen {d : Nat} {u : Mem} {Q : Option MV → Mem → Prop} (as : List MV) (hc : cats as ≤ 4) (h : RunB d Y_W_seen 0 (argL as 4) [] u Q) : OKm d g_W_seen as u Q := OKm.of (Y := Y_W_seen) ok_W_seen hc h
theorem rb_W_seen_0 {d : Nat} {L : List (Option MV)} {st : List MV} {u : Mem} {Q : Option MV → Mem → Prop} (h : go d Y_W_seen Q bk_W_seen_0 0 L st u) : RunB (d + 1) Y_W_seen 0 L st u Q := run_go ok_W_seen (by decide) h
theorem rb_W_seen_1 {d : Nat} {L : List (Option MV)} {st : List MV} {u : Mem} {Q : Option MV → Mem → Prop} (h : go d Y_W_seen Q bk_W_seen_1 1 L st u) : RunB (d + 1) Y_W_seen 1 L st u Q := run_go ok_W_seen (by decide) h
theorem rb_W_seen_2 {d : Nat} {L : List (Option MV)} {st : List MV} {u : Mem} {Q : Option MV → Mem → Prop} (h : go d Y_W_seen Q bk_W_seen_2 2 L st u) : RunB (d + 1) Y_W_seen 2 L st u Q := run_go ok_W_seen (by decide) h
theorem rb_W_seen_3 {d : Nat} {L : List (Option MV)} {st : List MV} {u : Mem} {Q : Option MV → Mem → Prop} (h : go d Y_W_seen Q bk_W_seen_3 3 L st u) : RunB (d + 1) Y_W_seen 3 L st u Q := run_go ok_W_seen (by decide) h
theorem rb_W_seen_4 {d : Nat} {L : List (Option MV)} {st : List MV} {u : Mem} {Q : Option MV → Mem → Prop} (h : go d Y_W_seen Q bk_W_seen_4 4 L st u) : RunB (d + 1) Y_W_seen 4 L st u Q := run_go ok_W_seen (by decide) h
theorem rb_W_seen_5 {d : Nat} {L : List (Option MV)} {st : List MV} {u : Mem} {Q : Option MV → Mem → Prop} (h : go d Y_W_seen Q bk_W_seen_5 5 L st u) : RunB (d + 1) Y_W_seen 5 L st u Q := run_go ok_W_seen (by decide) h
def bk_W_forget_0 : List En := [(.aload_n 0, 1, 0, 0, [], g_0), (.getfield 43, 3, 7, 5, [295], g_0), (.getfield 201, 3, 4, 3, [233], g_0), (.istore_n 1, 1, 1, 0, [], g_0), (.aload_n 0, 1, 0, 0, [], g_0), (.getfield 43, 3, 7, 5, [295], g_0), (.iconst 0, 1, 0, 0, [], g_0), (.putfield 201, 3, 4, 3, [233], g_0), (.iload_n 1, 1, 1, 0, [], g_0), (.ireturn, 1, 0, 0, [], g_0)]
def cd_W_forget : Cd := [(0, bk_W_forget_0), (18, [])]
def Y_W_forget : Mth := (g_W_forget, RW, cd_W_forget)
set_option maxRecDepth 20000 in
theorem ok_W_forget : okM Y_W_forget = true := by decide +kernel
theorem en_W_forget {d : Nat} {u : Mem} {Q : Option MV → Mem → Prop} (as : List MV) (hc : cats as ≤ 2) (h : RunB d Y_W_forget 0 (argL as 2) [] u Q) : OKm d g_W_forget as u Q := OKm.of (Y := Y_W_forget) ok_W_forget hc h
theorem rb_W_forget_0 {d : Nat} {L : List (Option MV)} {st : List MV} {u : Mem} {Q : Option MV → Mem → Prop} (h : go d Y_W_forget Q bk_W_forget_0 0 L st u) : RunB (d + 1) Y_W_forget 0 L st u Q := run_go ok_W_forget (by decide) h
def bk_W_never_0 : List En := [(.iconst 0, 1, 0, 0, [], g_0), (.istore_n 1, 1, 1, 0, [], g_0), (.iconst 0, 1, 0, 0, [], g_0), (.istore_n 2, 1, 2, 0, [], g_0)]
def bk_W_never_1 : List En := [(.iload_n 2, 1, 2, 0, [], g_0), (.aload_n 0, 1, 0, 0, [], g_0), (.getfield 18, 3, 7, 1, [291], g_0), (.getfield 135, 3, 2, 8, [160], g_0), (.if_icmp .ge 30, 3, 3, 0, [], g_0), (.aload_n 0, 1, 0, 0, [], g_0), (.getfield 18, 3, 7, 1, [291], g_0), (.iload_n 2, 1, 2, 0, [], g_0), (.putfield 208, 3, 2, 9, [163], g_0), (.aload_n 0, 1, 0, 0, [], g_0), (.invokevirtual 211, 3, 0, 7, [589, 591, 14, 67, 592], g_W_comesOutAsSeen), (.ifCond .eq 9, 3, 2, 0, [], g_0), (.iload_n 1, 1, 1, 0, [], g_0), (.iconst 1, 1, 1, 0, [], g_0), (.iload_n 2, 1, 2, 0, [], g_0), (.ishl, 1, 0, 0, [], g_0), (.ior, 1, 0, 0, [], g_0), (.istore_n 1, 1, 1, 0, [], g_0)]
def bk_W_never_2 : List En := [(.iinc 2 1, 3, 2, 1, [0], g_0), (.goto (-35), 3, 1, 0, [], g_0)]
def bk_W_never_3 : List En := [(.aload_n 0, 1, 0, 0, [], g_0), (.getfield 18, 3, 7, 1, [291], g_0), (.iconst (-1), 1, 1, 1, [], g_0), (.putfield 208, 3, 2, 9, [163], g_0), (.iload_n 1, 1, 1, 0, [], g_0), (.ireturn, 1, 0, 0, [], g_0)]
def cd_W_never : Cd := [(0, bk_W_never_0), (4, bk_W_never_1), (36, bk_W_never_2), (42, bk_W_never_3), (52, [])]
def Y_W_never : Mth := (g_W_never, RW, cd_W_never)
set_option maxRecDepth 20000 in
theorem ok_W_never : okM Y_W_never = true := by decide +kernel
theorem en_W_never {d : Nat} {u : Mem} {Q : Option MV → Mem → Prop} (as : List MV) (hc : cats as ≤ 3) (h : RunB d Y_W_never 0 (argL as 3) [] u Q) : OKm d g_W_never as u Q := OKm.of (Y := Y_W_never) ok_W_never hc h
theorem rb_W_never_0 {d : Nat} {L : List (Option MV)} {st : List MV} {u : Mem} {Q : Option MV → Mem → Prop} (h : go d Y_W_never Q bk_W_never_0 0 L st u) : RunB (d + 1) Y_W_never 0 L st u Q := run_go ok_W_never (by decide) h
theorem rb_W_never_1 {d : Nat} {L : List (Option MV)} {st : List MV} {u : Mem} {Q : Option MV → Mem → Prop} (h : go d Y_W_never Q bk_W_never_1 1 L st u) : RunB (d + 1) Y_W_never 1 L st u Q := run_go ok_W_never (by decide) h
theorem rb_W_never_2 {d : Nat} {L : List (Option MV)} {st : List MV} {u : Mem} {Q : Option MV → Mem → Prop} (h : go d Y_W_never Q bk_W_never_2 2 L st u) : RunB (d + 1) Y_W_never 2 L st u Q := run_go ok_W_never (by decide) h
theorem rb_W_never_3 {d : Nat} {L : List (Option MV)} {st : List MV} {u : Mem} {Q : Option MV → Mem → Prop} (h : go d Y_W_never Q bk_W_never_3 3 L st u) : RunB (d + 1) Y_W_never 3 L st u Q := run_go ok_W_never (by decide) h
def bk_W_was_0 : List En := [(.iload_n 1, 1, 1, 0, [], g_0), (.aload_n 0, 1, 0, 0, [], g_0), (.getfield 18, 3, 7, 1, [291], g_0), (.getfield 103, 3, 2, 5, [152], g_0), (.invokestatic 80, 3, 2, 1, [334, 335, 0, 67, 336], g_W_isBelow), (.ifCond .eq 11, 3, 1, 0, [], g_0), (.iload_n 2, 1, 2, 0, [], g_0), (.iconst 2, 1, 2, 0, [], g_0), (.invokestatic 80, 3, 2, 1, [334, 335, 0, 67, 336], g_W_isBelow), (.ifCond .ne 6, 3, 2, 0, [], g_0)]
def bk_W_was_1 : List En := [(.bipush (-2), 2, 2, 1, [], g_0), (.ireturn, 1, 0, 0, [], g_0)]
def bk_W_was_2 : List En := [(.aload_n 0, 1, 0, 0, [], g_0), (.getfield 18, 3, 7, 1, [291], g_0), (.getfield 106, 3, 2, 0, [140], g_0), (.iload_n 1, 1, 1, 0, [], g_0), (.aaload, 1, 0, 0, [], g_0), (.astore_n 3, 1, 3, 0, [], g_0), (.iload_n 2, 1, 2, 0, [], g_0), (.ifCond .ne 11, 3, 3, 0, [], g_0), (.aload_n 0, 1, 0, 0, [], g_0), (.aload_n 3, 1, 3, 0, [], g_0), (.invokevirtual 214, 3, 1, 7, [602, 604, 15, 67, 605], g_W_thicks), (.goto 8, 3, 4, 0, [], g_0)]
def bk_W_was_3 : List En := [(.aload_n 0, 1, 0, 0, [], g_0), (.aload_n 3, 1, 3, 0, [], g_0), (.invokevirtual 218, 3, 1, 7, [606, 608, 16, 67, 609], g_W_years)]
def bk_W_was_4 : List En := [(.ireturn, 1, 0, 0, [], g_0)]
def cd_W_was : Cd := [(0, bk_W_was_0), (22, bk_W_was_1), (25, bk_W_was_2), (47, bk_W_was_3), (52, bk_W_was_4), (53, [])]
def Y_W_was : Mth := (g_W_was, RW, cd_W_was)
set_option maxRecDepth 20000 in
theorem ok_W_was : okM Y_W_was = true := by decide +kernel
theorem en_W_was {d : Nat} {u : Mem} {Q : Option MV → Mem → Prop} (as : List MV) (hc : cats as ≤ 4) (h : RunB d Y_W_was 0 (argL as 4) [] u Q) : OKm d g_W_was as u Q := OKm.of (Y := Y_W_was) ok_W_was hc h
theorem rb_W_was_0 {d : Nat} {L : List (Option MV)} {st : List MV} {u : Mem} {Q : Option MV → Mem → Prop} (h : go d Y_W_was Q bk_W_was_0 0 L st u) : RunB (d + 1) Y_W_was 0 L st u Q := run_go ok_W_was (by decide) h
theorem rb_W_was_1 {d : Nat} {L : List (Option MV)} {st : List MV} {u : Mem} {Q : Option MV → Mem → Prop} (h : go d Y_W_was Q bk_W_was_1 1 L st u) : RunB (d + 1) Y_W_was 1 L st u Q := run_go ok_W_was (by decide) h
theorem rb_W_was_2 {d : Nat} {L : List (Option MV)} {st : List MV} {u : Mem} {Q : Option MV → Mem → Prop} (h : go d Y_W_was Q bk_W_was_2 2 L st u) : RunB (d + 1) Y_W_was 2 L st u Q := run_go ok_W_was (by decide) h
theorem rb_W_was_3 {d : Nat} {L : List (Option MV)} {st : List MV} {u : Mem} {Q : Option MV → Mem → Prop} (h : go d Y_W_was Q bk_W_was_3 3 L st u) : RunB (d + 1) Y_W_was 3 L st u Q := run_go ok_W_was (by decide) h
theorem rb_W_was_4 {d : Nat} {L : List (Option MV)} {st : List MV} {u : Mem} {Q : Option MV → Mem → Prop} (h : go d Y_W_was Q bk_W_was_4 4 L st u) : RunB (d + 1) Y_W_was 4 L st u Q := run_go ok_W_was (by decide) h
def bk_W_ask_0 : List En := [(.iload_n 1, 1, 1, 0, [], g_0), (.aload_n 0, 1, 0, 0, [], g_0), (.getfield 18, 3, 7, 1, [291], g_0), (.getfield 103, 3, 2, 5, [152], g_0), (.invokestatic 80, 3, 2, 1, [334, 335, 0, 67, 336], g_W_isBelow), (.ifCond .ne 6, 3, 1, 0, [], g_0), (.bipush (-2), 2, 2, 1, [], g_0), (.ireturn, 1, 0, 0, [], g_0)]
def bk_W_ask_1 : List En := [(.aload_n 0, 1, 0, 0, [], g_0), (.aload_n 0, 1, 0, 0, [], g_0), (.getfield 18, 3, 7, 1, [291], g_0), (.getfield 106, 3, 2, 0, [140], g_0), (.iload_n 1, 1, 1, 0, [], g_0), (.aaload, 1, 0, 0, [], g_0), (.invokevirtual 218, 3, 1, 7, [606, 608, 16, 67, 609], g_W_years), (.pop, 1, 0, 0, [], g_0), (.aload_n 0, 1, 0, 0, [], g_0), (.invokevirtual 221, 3, 0, 7, [619, 621, 18, 67, 622], g_W_columnToAsk), (.ireturn, 1, 0, 0, [], g_0)]
def cd_W_ask : Cd := [(0, bk_W_ask_0), (17, bk_W_ask_1), (36, [])]
def Y_W_ask : Mth := (g_W_ask, RW, cd_W_ask)
set_option maxRecDepth 20000 in
theorem ok_W_ask : okM Y_W_ask = true := by decide +kernel
theorem en_W_ask {d : Nat} {u : Mem} {Q : Option MV → Mem → Prop} (as : List MV) (hc : cats as ≤ 2) (h : RunB d Y_W_ask 0 (argL as 2) [] u Q) : OKm d g_W_ask as u Q := OKm.of (Y := Y_W_ask) ok_W_ask hc h
theorem rb_W_ask_0 {d : Nat} {L : List (Option MV)} {st : List MV} {u : Mem} {Q : Option MV → Mem → Prop} (h : go d Y_W_ask Q bk_W_ask_0 0 L st u) : RunB (d + 1) Y_W_ask 0 L st u Q := run_go ok_W_ask (by decide) h
theorem rb_W_ask_1 {d : Nat} {L : List (Option MV)} {st : List MV} {u : Mem} {Q : Option MV → Mem → Prop} (h : go d Y_W_ask Q bk_W_ask_1 1 L st u) : RunB (d + 1) Y_W_ask 1 L st u Q := run_go ok_W_ask (by decide) h
def bk_W_shower_0 : List En := [(.iload_n 1, 1, 1, 0, [], g_0), (.bipush 17, 2, 17, 0, [], g_0), (.invokestatic 80, 3, 2, 1, [334, 335, 0, 67, 336], g_W_isBelow), (.ifCond .eq 30, 3, 1, 0, [], g_0), (.iload_n 2, 1, 2, 0, [], g_0), (.bipush 10, 2, 10, 0, [], g_0), (.invokestatic 80, 3, 2, 1, [334, 335, 0, 67, 336], g_W_isBelow), (.ifCond .eq 21, 3, 1, 0, [], g_0), (.iload_n 3, 1, 3, 0, [], g_0), (.bipush 20, 2, 20, 0, [], g_0), (.invokestatic 80, 3, 2, 1, [334, 335, 0, 67, 336], g_W_isBelow), (.ifCond .eq 12, 3, 1, 0, [], g_0), (.iload 4, 2, 4, 0, [], g_0), (.iconst 2, 1, 2, 0, [], g_0), (.invokestatic 80, 3, 2, 1, [334, 335, 0, 67, 336], g_W_isBelow), (.ifCond .ne 7, 3, 2, 0, [], g_0)]
def bk_W_shower_1 : List En := [(.ldc2_w 224, 3, 9223372036854775806, 1, [632], g_0), (.lreturn, 1, 0, 0, [], g_0)]
def bk_W_shower_2 : List En := [(.aload_n 0, 1, 0, 0, [], g_0), (.iload_n 1, 1, 1, 0, [], g_0), (.iload_n 2, 1, 2, 0, [], g_0), (.iload_n 3, 1, 3, 0, [], g_0), (.invokevirtual 226, 3, 3, 7, [633, 635, 20, 67, 636], g_W_findShower), (.aload_n 0, 1, 0, 0, [], g_0), (.getfield 63, 3, 7, 10, [300], g_0), (.iload 4, 2, 4, 0, [], g_0), (.laload, 1, 0, 0, [], g_0), (.lreturn, 1, 0, 0, [], g_0)]
def cd_W_shower : Cd := [(0, bk_W_shower_0), (36, bk_W_shower_1), (40, bk_W_shower_2), (55, [])]
def Y_W_shower : Mth := (g_W_shower, RW, cd_W_shower)
set_option maxRecDepth 20000 in
theorem ok_W_shower : okM Y_W_shower = true := by decide +kernel
theorem en_W_shower {d : Nat} {u : Mem} {Q : Option MV → Mem → Prop} (as : List MV) (hc : cats as ≤ 5) (h : RunB d Y_W_shower 0 (argL as 5) [] u Q) : OKm d g_W_shower as u Q := OKm.of (Y := Y_W_shower) ok_W_shower hc h
theorem rb_W_shower_0 {d : Nat} {L : List (Option MV)} {st : List MV} {u : Mem} {Q : Option MV → Mem → Prop} (h : go d Y_W_shower Q bk_W_shower_0 0 L st u) : RunB (d + 1) Y_W_shower 0 L st u Q := run_go ok_W_shower (by decide) h
theorem rb_W_shower_1 {d : Nat} {L : List (Option MV)} {st : List MV} {u : Mem} {Q : Option MV → Mem → Prop} (h : go d Y_W_shower Q bk_W_shower_1 1 L st u) : RunB (d + 1) Y_W_shower 1 L st u Q := run_go ok_W_shower (by decide) h
theorem rb_W_shower_2 {d : Nat} {L : List (Option MV)} {st : List MV} {u : Mem} {Q : Option MV → Mem → Prop} (h : go d Y_W_shower Q bk_W_shower_2 2 L st u) : RunB (d + 1) Y_W_shower 2 L st u Q := run_go ok_W_shower (by decide) h
def bk_W_season_0 : List En := [(.iload_n 2, 1, 2, 0, [], g_0), (.bipush 21, 2, 21, 0, [], g_0), (.invokestatic 80, 3, 2, 1, [334, 335, 0, 67, 336], g_W_isBelow), (.ifCond .eq 11, 3, 1, 0, [], g_0), (.iload_n 3, 1, 3, 0, [], g_0), (.iconst 2, 1, 2, 0, [], g_0), (.invokestatic 80, 3, 2, 1, [334, 335, 0, 67, 336], g_W_isBelow), (.ifCond .ne 6, 3, 2, 0, [], g_0)]
def bk_W_season_1 : List En := [(.bipush (-2), 2, 2, 1, [], g_0), (.ireturn, 1, 0, 0, [], g_0)]
def bk_W_season_2 : List En := [(.iload_n 1, 1, 1, 0, [], g_0), (.istore 4, 2, 4, 0, [], g_0), (.iconst 0, 1, 0, 0, [], g_0), (.istore 5, 2, 5, 0, [], g_0)]
def bk_W_season_3 : List En := [(.iload 5, 2, 5, 0, [], g_0), (.bipush 20, 2, 20, 0, [], g_0), (.if_icmp .ge 45, 3, 6, 0, [], g_0), (.ldc 229, 2, 1103515245, 0, [661], g_0), (.iload 4, 2, 4, 0, [], g_0), (.imul, 1, 0, 0, [], g_0), (.sipush 12345, 3, 12345, 0, [], g_0), (.iadd, 1, 0, 0, [], g_0), (.istore 4, 2, 4, 0, [], g_0), (.aload_n 0, 1, 0, 0, [], g_0), (.getfield 53, 3, 7, 7, [297], g_0), (.iload 5, 2, 5, 0, [], g_0), (.iload 5, 2, 5, 0, [], g_0), (.iload_n 2, 1, 2, 0, [], g_0), (.if_icmp .ge 14, 3, 4, 0, [], g_0), (.iload 4, 2, 4, 0, [], g_0), (.bipush 16, 2, 16, 0, [], g_0), (.iushr, 1, 0, 0, [], g_0), (.bipush 10, 2, 10, 0, [], g_0), (.irem, 1, 0, 0, [], g_0), (.goto 4, 3, 5, 0, [], g_0)]
def bk_W_season_4 : List En := [(.iconst 0, 1, 0, 0, [], g_0)]
def bk_W_season_5 : List En := [(.iastore, 1, 0, 0, [], g_0), (.iinc 5 1, 3, 5, 1, [0], g_0), (.goto (-46), 3, 3, 0, [], g_0)]
def bk_W_season_6 : List En := [(.aload_n 0, 1, 0, 0, [], g_0), (.getfield 31, 3, 7, 3, [293], g_0), (.aload_n 0, 1, 0, 0, [], g_0), (.getfield 53, 3, 7, 7, [297], g_0), (.bipush 20, 2, 20, 0, [], g_0), (.invokevirtual 230, 3, 2, 5, [443, 444, 445, 71, 446], g_T_playDays), (.iload_n 3, 1, 3, 0, [], g_0), (.ifCond .ne 13, 3, 7, 0, [], g_0), (.aload_n 0, 1, 0, 0, [], g_0), (.getfield 31, 3, 7, 3, [293], g_0), (.invokevirtual 167, 3, 0, 5, [495, 496, 497, 71, 498], g_T_daysObeyed), (.goto 13, 3, 8, 0, [], g_0)]
def bk_W_season_7 : List En := [(.aload_n 0, 1, 0, 0, [], g_0), (.getfield 31, 3, 7, 3, [293], g_0), (.invokevirtual 171, 3, 0, 5, [504, 505, 506, 71, 507], g_T_unreadBills), (.invokestatic 234, 3, 1, 1, [662, 663, 0, 79, 664], g_J_bitCount)]
def bk_W_season_8 : List En := [(.ireturn, 1, 0, 0, [], g_0)]
def cd_W_season : Cd := [(0, bk_W_season_0), (17, bk_W_season_1), (20, bk_W_season_2), (26, bk_W_season_3), (67, bk_W_season_4), (68, bk_W_season_5), (75, bk_W_season_6), (102, bk_W_season_7), (112, bk_W_season_8), (113, [])]
def Y_W_season : Mth := (g_W_season, RW, cd_W_season)
set_option maxRecDepth 20000 in
theorem ok_W_season : okM Y_W_season = true := by decide +kernel
theorem en_W_season {d : Nat} {u : Mem} {Q : Option MV → Mem → Prop} (as : List MV) (hc : cats as ≤ 6) (h : RunB d Y_W_season 0 (argL as 6) [] u Q) : OKm d g_W_season as u Q := OKm.of (Y := Y_W_season) ok_W_season hc h
theorem rb_W_season_0 {d : Nat} {L : List (Option MV)} {st : List MV} {u : Mem} {Q : Option MV → Mem → Prop} (h : go d Y_W_season Q bk_W_season_0 0 L st u) : RunB (d + 1) Y_W_season 0 L st u Q := run_go ok_W_season (by decide) h
theorem rb_W_season_1 {d : Nat} {L : List (Option MV)} {st : List MV} {u : Mem} {Q : Option MV → Mem → Prop} (h : go d Y_W_season Q bk_W_season_1 1 L st u) : RunB (d + 1) Y_W_season 1 L st u Q := run_go ok_W_season (by decide) h
theorem rb_W_season_2 {d : Nat} {L : List (Option MV)} {st : List MV} {u : Mem} {Q : Option MV → Mem → Prop} (h : go d Y_W_season Q bk_W_season_2 2 L st u) : RunB (d + 1) Y_W_season 2 L st u Q := run_go ok_W_season (by decide) h
theorem rb_W_season_3 {d : Nat} {L : List (Option MV)} {st : List MV} {u : Mem} {Q : Option MV → Mem → Prop} (h : go d Y_W_season Q bk_W_season_3 3 L st u) : RunB (d + 1) Y_W_season 3 L st u Q := run_go ok_W_season (by decide) h
theorem rb_W_season_4 {d : Nat} {L : List (Option MV)} {st : List MV} {u : Mem} {Q : Option MV → Mem → Prop} (h : go d Y_W_season Q bk_W_season_4 4 L st u) : RunB (d + 1) Y_W_season 4 L st u Q := run_go ok_W_season (by decide) h
theorem rb_W_season_5 {d : Nat} {L : List (Option MV)} {st : List MV} {u : Mem} {Q : Option MV → Mem → Prop} (h : go d Y_W_season Q bk_W_season_5 5 L st u) : RunB (d + 1) Y_W_season 5 L st u Q := run_go ok_W_season (by decide) h
theorem rb_W_season_6 {d : Nat} {L : List (Option MV)} {st : List MV} {u : Mem} {Q : Option MV → Mem → Prop} (h : go d Y_W_season Q bk_W_season_6 6 L st u) : RunB (d + 1) Y_W_season 6 L st u Q := run_go ok_W_season (by decide) h
theorem rb_W_season_7 {d : Nat} {L : List (Option MV)} {st : List MV} {u : Mem} {Q : Option MV → Mem → Prop} (h : go d Y_W_season Q bk_W_season_7 7 L st u) : RunB (d + 1) Y_W_season 7 L st u Q := run_go ok_W_season (by decide) h
theorem rb_W_season_8 {d : Nat} {L : List (Option MV)} {st : List MV} {u : Mem} {Q : Option MV → Mem → Prop} (h : go d Y_W_season Q bk_W_season_8 8 L st u) : RunB (d + 1) Y_W_season 8 L st u Q := run_go ok_W_season (by decide) h
def bk_W_sheet_0 : List En := [(.iload_n 1, 1, 1, 0, [], g_0), (.iconst 4, 1, 4, 0, [], g_0), (.invokestatic 80, 3, 2, 1, [334, 335, 0, 67, 336], g_W_isBelow), (.ifCond .eq 17, 3, 1, 0, [], g_0), (.iload_n 2, 1, 2, 0, [], g_0), (.iconst 3, 1, 3, 0, [], g_0), (.invokestatic 80, 3, 2, 1, [334, 335, 0, 67, 336], g_W_isBelow), (.ifCond .eq 9, 3, 1, 0, [], g_0), (.iload_n 3, 1, 3, 0, [], g_0), (.bipush 60, 2, 60, 0, [], g_0), (.if_icmp .le 6, 3, 2, 0, [], g_0)]
def bk_W_sheet_1 : List En := [(.bipush (-2), 2, 2, 1, [], g_0), (.ireturn, 1, 0, 0, [], g_0)]
def bk_W_sheet_2 : List En := [(.iload_n 3, 1, 3, 0, [], g_0), (.ifCond .ge 9, 3, 3, 0, [], g_0), (.aload_n 0, 1, 0, 0, [], g_0), (.iconst 5, 1, 5, 0, [], g_0), (.invokevirtual 145, 3, 1, 7, [425, 427, 2, 67, 428], g_W_finding), (.ireturn, 1, 0, 0, [], g_0)]
def bk_W_sheet_3 : List En := [(.aload_n 0, 1, 0, 0, [], g_0), (.getfield 49, 3, 7, 6, [296], g_0), (.iload_n 1, 1, 1, 0, [], g_0), (.aaload, 1, 0, 0, [], g_0), (.iload_n 2, 1, 2, 0, [], g_0), (.iload_n 3, 1, 3, 0, [], g_0), (.invokevirtual 239, 3, 2, 3, [672, 673, 674, 76, 675], g_R_begin), (.iload_n 3, 1, 3, 0, [], g_0), (.ireturn, 1, 0, 0, [], g_0)]
def cd_W_sheet : Cd := [(0, bk_W_sheet_0), (22, bk_W_sheet_1), (25, bk_W_sheet_2), (35, bk_W_sheet_3), (48, [])]
def Y_W_sheet : Mth := (g_W_sheet, RW, cd_W_sheet)
set_option maxRecDepth 20000 in
theorem ok_W_sheet : okM Y_W_sheet = true := by decide +kernel
theorem en_W_sheet {d : Nat} {u : Mem} {Q : Option MV → Mem → Prop} (as : List MV) (hc : cats as ≤ 4) (h : RunB d Y_W_sheet 0 (argL as 4) [] u Q) : OKm d g_W_sheet as u Q := OKm.of (Y := Y_W_sheet) ok_W_sheet hc h
theorem rb_W_sheet_0 {d : Nat} {L : List (Option MV)} {st : List MV} {u : Mem} {Q : Option MV → Mem → Prop} (h : go d Y_W_sheet Q bk_W_sheet_0 0 L st u) : RunB (d + 1) Y_W_sheet 0 L st u Q := run_go ok_W_sheet (by decide) h
theorem rb_W_sheet_1 {d : Nat} {L : List (Option MV)} {st : List MV} {u : Mem} {Q : Option MV → Mem → Prop} (h : go d Y_W_sheet Q bk_W_sheet_1 1 L st u) : RunB (d + 1) Y_W_sheet 1 L st u Q := run_go ok_W_sheet (by decide) h
theorem rb_W_sheet_2 {d : Nat} {L : List (Option MV)} {st : List MV} {u : Mem} {Q : Option MV → Mem → Prop} (h : go d Y_W_sheet Q bk_W_sheet_2 2 L st u) : RunB (d + 1) Y_W_sheet 2 L st u Q := run_go ok_W_sheet (by decide) h
theorem rb_W_sheet_3 {d : Nat} {L : List (Option MV)} {st : List MV} {u : Mem} {Q : Option MV → Mem → Prop} (h : go d Y_W_sheet Q bk_W_sheet_3 3 L st u) : RunB (d + 1) Y_W_sheet 3 L st u Q := run_go ok_W_sheet (by decide) h
def bk_W_lose_0 : List En := [(.iload_n 1, 1, 1, 0, [], g_0), (.iconst 4, 1, 4, 0, [], g_0), (.invokestatic 80, 3, 2, 1, [334, 335, 0, 67, 336], g_W_isBelow), (.ifCond .ne 6, 3, 1, 0, [], g_0), (.bipush (-2), 2, 2, 1, [], g_0), (.ireturn, 1, 0, 0, [], g_0)]
def bk_W_lose_1 : List En := [(.aload_n 0, 1, 0, 0, [], g_0), (.getfield 49, 3, 7, 6, [296], g_0), (.iload_n 1, 1, 1, 0, [], g_0), (.aaload, 1, 0, 0, [], g_0), (.getfield 142, 3, 3, 1, [276], g_0), (.ifCond .eq 9, 3, 2, 0, [], g_0), (.aload_n 0, 1, 0, 0, [], g_0), (.iconst 1, 1, 1, 0, [], g_0), (.invokevirtual 145, 3, 1, 7, [425, 427, 2, 67, 428], g_W_finding), (.ireturn, 1, 0, 0, [], g_0)]
def bk_W_lose_2 : List En := [(.aload_n 0, 1, 0, 0, [], g_0), (.getfield 49, 3, 7, 6, [296], g_0), (.iload_n 1, 1, 1, 0, [], g_0), (.aaload, 1, 0, 0, [], g_0), (.iconst 1, 1, 1, 0, [], g_0), (.putfield 142, 3, 3, 1, [276], g_0), (.aload_n 0, 1, 0, 0, [], g_0), (.getfield 49, 3, 7, 6, [296], g_0), (.iload_n 1, 1, 1, 0, [], g_0), (.aaload, 1, 0, 0, [], g_0), (.getfield 148, 3, 3, 3, [280], g_0), (.ireturn, 1, 0, 0, [], g_0)]
def cd_W_lose : Cd := [(0, bk_W_lose_0), (11, bk_W_lose_1), (29, bk_W_lose_2), (49, [])]
def Y_W_lose : Mth := (g_W_lose, RW, cd_W_lose)
set_option maxRecDepth 20000 in
theorem ok_W_lose : okM Y_W_lose = true := by decide +kernel
theorem en_W_lose {d : Nat} {u : Mem} {Q : Option MV → Mem → Prop} (as : List MV) (hc : cats as ≤ 2) (h : RunB d Y_W_lose 0 (argL as 2) [] u Q) : OKm d g_W_lose as u Q := OKm.of (Y := Y_W_lose) ok_W_lose hc h
theorem rb_W_lose_0 {d : Nat} {L : List (Option MV)} {st : List MV} {u : Mem} {Q : Option MV → Mem → Prop} (h : go d Y_W_lose Q bk_W_lose_0 0 L st u) : RunB (d + 1) Y_W_lose 0 L st u Q := run_go ok_W_lose (by decide) h
theorem rb_W_lose_1 {d : Nat} {L : List (Option MV)} {st : List MV} {u : Mem} {Q : Option MV → Mem → Prop} (h : go d Y_W_lose Q bk_W_lose_1 1 L st u) : RunB (d + 1) Y_W_lose 1 L st u Q := run_go ok_W_lose (by decide) h
theorem rb_W_lose_2 {d : Nat} {L : List (Option MV)} {st : List MV} {u : Mem} {Q : Option MV → Mem → Prop} (h : go d Y_W_lose Q bk_W_lose_2 2 L st u) : RunB (d + 1) Y_W_lose 2 L st u Q := run_go ok_W_lose (by decide) h
def bk_W_lay_0 : List En := [(.iload_n 1, 1, 1, 0, [], g_0), (.iconst 4, 1, 4, 0, [], g_0), (.invokestatic 80, 3, 2, 1, [334, 335, 0, 67, 336], g_W_isBelow), (.ifCond .eq 11, 3, 1, 0, [], g_0), (.iload_n 2, 1, 2, 0, [], g_0), (.iconst 3, 1, 3, 0, [], g_0), (.invokestatic 80, 3, 2, 1, [334, 335, 0, 67, 336], g_W_isBelow), (.ifCond .ne 6, 3, 2, 0, [], g_0)]
def bk_W_lay_1 : List En := [(.bipush (-2), 2, 2, 1, [], g_0), (.ireturn, 1, 0, 0, [], g_0)]
def bk_W_lay_2 : List En := [(.aload_n 0, 1, 0, 0, [], g_0), (.getfield 49, 3, 7, 6, [296], g_0), (.iload_n 1, 1, 1, 0, [], g_0), (.aaload, 1, 0, 0, [], g_0), (.iload_n 2, 1, 2, 0, [], g_0), (.iload_n 3, 1, 3, 0, [], g_0), (.invokestatic 242, 3, 3, 1, [689, 690, 0, 67, 691], g_W_wrongWith), (.istore 5, 2, 5, 0, [], g_0), (.iload 5, 2, 5, 0, [], g_0), (.ifCond .eq 10, 3, 3, 0, [], g_0), (.aload_n 0, 1, 0, 0, [], g_0), (.iload 5, 2, 5, 0, [], g_0), (.invokevirtual 145, 3, 1, 7, [425, 427, 2, 67, 428], g_W_finding), (.ireturn, 1, 0, 0, [], g_0)]
def bk_W_lay_3 : List En := [(.aload_n 0, 1, 0, 0, [], g_0), (.getfield 49, 3, 7, 6, [296], g_0), (.iload_n 1, 1, 1, 0, [], g_0), (.aaload, 1, 0, 0, [], g_0), (.iload_n 3, 1, 3, 0, [], g_0), (.iload 4, 2, 4, 0, [], g_0), (.invokevirtual 246, 3, 2, 3, [696, 697, 698, 76, 699], g_R_put), (.iconst 1, 1, 1, 0, [], g_0), (.ireturn, 1, 0, 0, [], g_0)]
def cd_W_lay : Cd := [(0, bk_W_lay_0), (16, bk_W_lay_1), (19, bk_W_lay_2), (44, bk_W_lay_3), (58, [])]
def Y_W_lay : Mth := (g_W_lay, RW, cd_W_lay)
set_option maxRecDepth 20000 in
theorem ok_W_lay : okM Y_W_lay = true := by decide +kernel
theorem en_W_lay {d : Nat} {u : Mem} {Q : Option MV → Mem → Prop} (as : List MV) (hc : cats as ≤ 6) (h : RunB d Y_W_lay 0 (argL as 6) [] u Q) : OKm d g_W_lay as u Q := OKm.of (Y := Y_W_lay) ok_W_lay hc h
theorem rb_W_lay_0 {d : Nat} {L : List (Option MV)} {st : List MV} {u : Mem} {Q : Option MV → Mem → Prop} (h : go d Y_W_lay Q bk_W_lay_0 0 L st u) : RunB (d + 1) Y_W_lay 0 L st u Q := run_go ok_W_lay (by decide) h
theorem rb_W_lay_1 {d : Nat} {L : List (Option MV)} {st : List MV} {u : Mem} {Q : Option MV → Mem → Prop} (h : go d Y_W_lay Q bk_W_lay_1 1 L st u) : RunB (d + 1) Y_W_lay 1 L st u Q := run_go ok_W_lay (by decide) h
theorem rb_W_lay_2 {d : Nat} {L : List (Option MV)} {st : List MV} {u : Mem} {Q : Option MV → Mem → Prop} (h : go d Y_W_lay Q bk_W_lay_2 2 L st u) : RunB (d + 1) Y_W_lay 2 L st u Q := run_go ok_W_lay (by decide) h
theorem rb_W_lay_3 {d : Nat} {L : List (Option MV)} {st : List MV} {u : Mem} {Q : Option MV → Mem → Prop} (h : go d Y_W_lay Q bk_W_lay_3 3 L st u) : RunB (d + 1) Y_W_lay 3 L st u Q := run_go ok_W_lay (by decide) h
def bk_W_get_0 : List En := [(.iload_n 1, 1, 1, 0, [], g_0), (.iconst 4, 1, 4, 0, [], g_0), (.invokestatic 80, 3, 2, 1, [334, 335, 0, 67, 336], g_W_isBelow), (.ifCond .eq 11, 3, 1, 0, [], g_0), (.iload_n 2, 1, 2, 0, [], g_0), (.iconst 3, 1, 3, 0, [], g_0), (.invokestatic 80, 3, 2, 1, [334, 335, 0, 67, 336], g_W_isBelow), (.ifCond .ne 6, 3, 2, 0, [], g_0)]
def bk_W_get_1 : List En := [(.ldc 249, 2, 2147483648, 1, [704], g_0), (.ireturn, 1, 0, 0, [], g_0)]
def bk_W_get_2 : List En := [(.aload_n 0, 1, 0, 0, [], g_0), (.getfield 49, 3, 7, 6, [296], g_0), (.iload_n 1, 1, 1, 0, [], g_0), (.aaload, 1, 0, 0, [], g_0), (.iload_n 2, 1, 2, 0, [], g_0), (.iload_n 3, 1, 3, 0, [], g_0), (.invokestatic 242, 3, 3, 1, [689, 690, 0, 67, 691], g_W_wrongWith), (.istore 4, 2, 4, 0, [], g_0), (.iload 4, 2, 4, 0, [], g_0), (.ifCond .eq 13, 3, 3, 0, [], g_0), (.aload_n 0, 1, 0, 0, [], g_0), (.iload 4, 2, 4, 0, [], g_0), (.invokevirtual 145, 3, 1, 7, [425, 427, 2, 67, 428], g_W_finding), (.pop, 1, 0, 0, [], g_0), (.ldc 249, 2, 2147483648, 1, [704], g_0), (.ireturn, 1, 0, 0, [], g_0)]
def bk_W_get_3 : List En := [(.aload_n 0, 1, 0, 0, [], g_0), (.getfield 49, 3, 7, 6, [296], g_0), (.iload_n 1, 1, 1, 0, [], g_0), (.aaload, 1, 0, 0, [], g_0), (.iload_n 3, 1, 3, 0, [], g_0), (.invokevirtual 149, 3, 1, 3, [429, 430, 431, 76, 432], g_R_item), (.ireturn, 1, 0, 0, [], g_0)]
def cd_W_get : Cd := [(0, bk_W_get_0), (16, bk_W_get_1), (19, bk_W_get_2), (47, bk_W_get_3), (58, [])]
def Y_W_get : Mth := (g_W_get, RW, cd_W_get)
set_option maxRecDepth 20000 in
theorem ok_W_get : okM Y_W_get = true := by decide +kernel
theorem en_W_get {d : Nat} {u : Mem} {Q : Option MV → Mem → Prop} (as : List MV) (hc : cats as ≤ 5) (h : RunB d Y_W_get 0 (argL as 5) [] u Q) : OKm d g_W_get as u Q := OKm.of (Y := Y_W_get) ok_W_get hc h
theorem rb_W_get_0 {d : Nat} {L : List (Option MV)} {st : List MV} {u : Mem} {Q : Option MV → Mem → Prop} (h : go d Y_W_get Q bk_W_get_0 0 L st u) : RunB (d + 1) Y_W_get 0 L st u Q := run_go ok_W_get (by decide) h
theorem rb_W_get_1 {d : Nat} {L : List (Option MV)} {st : List MV} {u : Mem} {Q : Option MV → Mem → Prop} (h : go d Y_W_get Q bk_W_get_1 1 L st u) : RunB (d + 1) Y_W_get 1 L st u Q := run_go ok_W_get (by decide) h
theorem rb_W_get_2 {d : Nat} {L : List (Option MV)} {st : List MV} {u : Mem} {Q : Option MV → Mem → Prop} (h : go d Y_W_get Q bk_W_get_2 2 L st u) : RunB (d + 1) Y_W_get 2 L st u Q := run_go ok_W_get (by decide) h
theorem rb_W_get_3 {d : Nat} {L : List (Option MV)} {st : List MV} {u : Mem} {Q : Option MV → Mem → Prop} (h : go d Y_W_get Q bk_W_get_3 3 L st u) : RunB (d + 1) Y_W_get 3 L st u Q := run_go ok_W_get (by decide) h
def bk_W_copy_0 : List En := [(.iload_n 1, 1, 1, 0, [], g_0), (.iconst 4, 1, 4, 0, [], g_0), (.invokestatic 80, 3, 2, 1, [334, 335, 0, 67, 336], g_W_isBelow), (.ifCond .eq 11, 3, 1, 0, [], g_0), (.iload_n 3, 1, 3, 0, [], g_0), (.iconst 4, 1, 4, 0, [], g_0), (.invokestatic 80, 3, 2, 1, [334, 335, 0, 67, 336], g_W_isBelow), (.ifCond .ne 6, 3, 2, 0, [], g_0)]
def bk_W_copy_1 : List En := [(.bipush (-2), 2, 2, 1, [], g_0), (.ireturn, 1, 0, 0, [], g_0)]
def bk_W_copy_2 : List En := [(.aload_n 0, 1, 0, 0, [], g_0), (.getfield 49, 3, 7, 6, [296], g_0), (.iload_n 1, 1, 1, 0, [], g_0), (.aaload, 1, 0, 0, [], g_0), (.astore 6, 2, 6, 0, [], g_0), (.aload_n 0, 1, 0, 0, [], g_0), (.getfield 49, 3, 7, 6, [296], g_0), (.iload_n 3, 1, 3, 0, [], g_0), (.aaload, 1, 0, 0, [], g_0), (.astore 7, 2, 7, 0, [], g_0), (.aload 6, 2, 6, 0, [], g_0), (.getfield 142, 3, 3, 1, [276], g_0), (.ifCond .ne 11, 3, 3, 0, [], g_0), (.aload 7, 2, 7, 0, [], g_0), (.getfield 142, 3, 3, 1, [276], g_0), (.ifCond .eq 9, 3, 4, 0, [], g_0)]
def bk_W_copy_3 : List En := [(.aload_n 0, 1, 0, 0, [], g_0), (.iconst 1, 1, 1, 0, [], g_0), (.invokevirtual 145, 3, 1, 7, [425, 427, 2, 67, 428], g_W_finding), (.ireturn, 1, 0, 0, [], g_0)]
def bk_W_copy_4 : List En := [(.aload 6, 2, 6, 0, [], g_0), (.getfield 250, 3, 3, 2, [278], g_0), (.aload 7, 2, 7, 0, [], g_0), (.getfield 250, 3, 3, 2, [278], g_0), (.if_icmp .eq 9, 3, 5, 0, [], g_0), (.aload_n 0, 1, 0, 0, [], g_0), (.iconst 4, 1, 4, 0, [], g_0), (.invokevirtual 145, 3, 1, 7, [425, 427, 2, 67, 428], g_W_finding), (.ireturn, 1, 0, 0, [], g_0)]
def bk_W_copy_5 : List En := [(.aload 6, 2, 6, 0, [], g_0), (.iload_n 2, 1, 2, 0, [], g_0), (.iload 5, 2, 5, 0, [], g_0), (.invokevirtual 253, 3, 2, 3, [692, 693, 694, 76, 695], g_R_has), (.ifCond .eq 15, 3, 6, 0, [], g_0), (.aload 7, 2, 7, 0, [], g_0), (.iload 4, 2, 4, 0, [], g_0), (.iload 5, 2, 5, 0, [], g_0), (.invokevirtual 253, 3, 2, 3, [692, 693, 694, 76, 695], g_R_has), (.ifCond .ne 9, 3, 7, 0, [], g_0)]
def bk_W_copy_6 : List En := [(.aload_n 0, 1, 0, 0, [], g_0), (.iconst 2, 1, 2, 0, [], g_0), (.invokevirtual 145, 3, 1, 7, [425, 427, 2, 67, 428], g_W_finding), (.ireturn, 1, 0, 0, [], g_0)]
def bk_W_copy_7 : List En := [(.aload 6, 2, 6, 0, [], g_0), (.getfield 256, 3, 3, 0, [274], g_0), (.iload_n 2, 1, 2, 0, [], g_0), (.aload 7, 2, 7, 0, [], g_0), (.getfield 256, 3, 3, 0, [274], g_0), (.iload 4, 2, 4, 0, [], g_0), (.iload 5, 2, 5, 0, [], g_0), (.invokestatic 259, 3, 0, 3, [709, 539, 538, 78], g_0), (.iconst 1, 1, 1, 0, [], g_0), (.ireturn, 1, 0, 0, [], g_0)]
def cd_W_copy : Cd := [(0, bk_W_copy_0), (16, bk_W_copy_1), (19, bk_W_copy_2), (51, bk_W_copy_3), (57, bk_W_copy_4), (76, bk_W_copy_5), (99, bk_W_copy_6), (105, bk_W_copy_7), (125, [])]
def Y_W_copy : Mth := (g_W_copy, RW, cd_W_copy)
set_option maxRecDepth 20000 in
theorem ok_W_copy : okM Y_W_copy = true := by decide +kernel
theorem en_W_copy {d : Nat} {u : Mem} {Q : Option MV → Mem → Prop} (as : List MV) (hc : cats as ≤ 8) (h : RunB d Y_W_copy 0 (argL as 8) [] u Q) : OKm d g_W_copy as u Q := OKm.of (Y := Y_W_copy) ok_W_copy hc h
theorem rb_W_copy_0 {d : Nat} {L : List (Option MV)} {st : List MV} {u : Mem} {Q : Option MV → Mem → Prop} (h : go d Y_W_copy Q bk_W_copy_0 0 L st u) : RunB (d + 1) Y_W_copy 0 L st u Q := run_go ok_W_copy (by decide) h
theorem rb_W_copy_1 {d : Nat} {L : List (Option MV)} {st : List MV} {u : Mem} {Q : Option MV → Mem → Prop} (h : go d Y_W_copy Q bk_W_copy_1 1 L st u) : RunB (d + 1) Y_W_copy 1 L st u Q := run_go ok_W_copy (by decide) h
theorem rb_W_copy_2 {d : Nat} {L : List (Option MV)} {st : List MV} {u : Mem} {Q : Option MV → Mem → Prop} (h : go d Y_W_copy Q bk_W_copy_2 2 L st u) : RunB (d + 1) Y_W_copy 2 L st u Q := run_go ok_W_copy (by decide) h
theorem rb_W_copy_3 {d : Nat} {L : List (Option MV)} {st : List MV} {u : Mem} {Q : Option MV → Mem → Prop} (h : go d Y_W_copy Q bk_W_copy_3 3 L st u) : RunB (d + 1) Y_W_copy 3 L st u Q := run_go ok_W_copy (by decide) h
theorem rb_W_copy_4 {d : Nat} {L : List (Option MV)} {st : List MV} {u : Mem} {Q : Option MV → Mem → Prop} (h : go d Y_W_copy Q bk_W_copy_4 4 L st u) : RunB (d + 1) Y_W_copy 4 L st u Q := run_go ok_W_copy (by decide) h
theorem rb_W_copy_5 {d : Nat} {L : List (Option MV)} {st : List MV} {u : Mem} {Q : Option MV → Mem → Prop} (h : go d Y_W_copy Q bk_W_copy_5 5 L st u) : RunB (d + 1) Y_W_copy 5 L st u Q := run_go ok_W_copy (by decide) h
theorem rb_W_copy_6 {d : Nat} {L : List (Option MV)} {st : List MV} {u : Mem} {Q : Option MV → Mem → Prop} (h : go d Y_W_copy Q bk_W_copy_6 6 L st u) : RunB (d + 1) Y_W_copy 6 L st u Q := run_go ok_W_copy (by decide) h
theorem rb_W_copy_7 {d : Nat} {L : List (Option MV)} {st : List MV} {u : Mem} {Q : Option MV → Mem → Prop} (h : go d Y_W_copy Q bk_W_copy_7 7 L st u) : RunB (d + 1) Y_W_copy 7 L st u Q := run_go ok_W_copy (by decide) h
def bk_W_write_0 : List En := [(.iload_n 1, 1, 1, 0, [], g_0), (.bipush 20, 2, 20, 0, [], g_0), (.invokestatic 80, 3, 2, 1, [334, 335, 0, 67, 336], g_W_isBelow), (.ifCond .eq 11, 3, 1, 0, [], g_0), (.iload_n 2, 1, 2, 0, [], g_0), (.iconst 4, 1, 4, 0, [], g_0), (.invokestatic 80, 3, 2, 1, [334, 335, 0, 67, 336], g_W_isBelow), (.ifCond .ne 6, 3, 2, 0, [], g_0)]
def bk_W_write_1 : List En := [(.bipush (-2), 2, 2, 1, [], g_0), (.ireturn, 1, 0, 0, [], g_0)]
def bk_W_write_2 : List En := [(.aload_n 0, 1, 0, 0, [], g_0), (.getfield 49, 3, 7, 6, [296], g_0), (.iload_n 2, 1, 2, 0, [], g_0), (.aaload, 1, 0, 0, [], g_0), (.astore_n 3, 1, 3, 0, [], g_0), (.aload_n 3, 1, 3, 0, [], g_0), (.getfield 142, 3, 3, 1, [276], g_0), (.ifCond .eq 9, 3, 3, 0, [], g_0), (.aload_n 0, 1, 0, 0, [], g_0), (.iconst 1, 1, 1, 0, [], g_0), (.invokevirtual 145, 3, 1, 7, [425, 427, 2, 67, 428], g_W_finding), (.ireturn, 1, 0, 0, [], g_0)]
def bk_W_write_3 : List En := [(.aload_n 0, 1, 0, 0, [], g_0), (.invokevirtual 156, 3, 0, 7, [439, 441, 3, 67, 442], g_W_playTold), (.bipush 6, 2, 6, 0, [], g_0), (.aload_n 3, 1, 3, 0, [], g_0), (.getfield 148, 3, 3, 3, [280], g_0), (.invokestatic 265, 3, 0, 5, [714, 678, 0, 75, 679], g_0), (.istore 4, 2, 4, 0, [], g_0), (.iconst 0, 1, 0, 0, [], g_0), (.istore 5, 2, 5, 0, [], g_0)]
def bk_W_write_4 : List En := [(.iload 5, 2, 5, 0, [], g_0), (.iload 4, 2, 4, 0, [], g_0), (.if_icmp .ge 26, 3, 5, 0, [], g_0), (.aload_n 3, 1, 3, 0, [], g_0), (.iload 5, 2, 5, 0, [], g_0), (.aload_n 0, 1, 0, 0, [], g_0), (.getfield 27, 3, 7, 2, [292], g_0), (.iload_n 1, 1, 1, 0, [], g_0), (.iload 5, 2, 5, 0, [], g_0), (.iconst 0, 1, 0, 0, [], g_0), (.invokevirtual 159, 3, 3, 5, [477, 478, 479, 71, 480], g_T_fact), (.invokevirtual 246, 3, 2, 3, [696, 697, 698, 76, 699], g_R_put), (.iinc 5 1, 3, 5, 1, [0], g_0), (.goto (-27), 3, 4, 0, [], g_0)]
def bk_W_write_5 : List En := [(.iload 4, 2, 4, 0, [], g_0), (.ireturn, 1, 0, 0, [], g_0)]
def cd_W_write : Cd := [(0, bk_W_write_0), (17, bk_W_write_1), (20, bk_W_write_2), (40, bk_W_write_3), (58, bk_W_write_4), (88, bk_W_write_5), (91, [])]
def Y_W_write : Mth := (g_W_write, RW, cd_W_write)
set_option maxRecDepth 20000 in
theorem ok_W_write : okM Y_W_write = true := by decide +kernel
theorem en_W_write {d : Nat} {u : Mem} {Q : Option MV → Mem → Prop} (as : List MV) (hc : cats as ≤ 6) (h : RunB d Y_W_write 0 (argL as 6) [] u Q) : OKm d g_W_write as u Q := OKm.of (Y := Y_W_write) ok_W_write hc h
theorem rb_W_write_0 {d : Nat} {L : List (Option MV)} {st : List MV} {u : Mem} {Q : Option MV → Mem → Prop} (h : go d Y_W_write Q bk_W_write_0 0 L st u) : RunB (d + 1) Y_W_write 0 L st u Q := run_go ok_W_write (by decide) h
theorem rb_W_write_1 {d : Nat} {L : List (Option MV)} {st : List MV} {u : Mem} {Q : Option MV → Mem → Prop} (h : go d Y_W_write Q bk_W_write_1 1 L st u) : RunB (d + 1) Y_W_write 1 L st u Q := run_go ok_W_write (by decide) h
theorem rb_W_write_2 {d : Nat} {L : List (Option MV)} {st : List MV} {u : Mem} {Q : Option MV → Mem → Prop} (h : go d Y_W_write Q bk_W_write_2 2 L st u) : RunB (d + 1) Y_W_write 2 L st u Q := run_go ok_W_write (by decide) h
theorem rb_W_write_3 {d : Nat} {L : List (Option MV)} {st : List MV} {u : Mem} {Q : Option MV → Mem → Prop} (h : go d Y_W_write Q bk_W_write_3 3 L st u) : RunB (d + 1) Y_W_write 3 L st u Q := run_go ok_W_write (by decide) h
theorem rb_W_write_4 {d : Nat} {L : List (Option MV)} {st : List MV} {u : Mem} {Q : Option MV → Mem → Prop} (h : go d Y_W_write Q bk_W_write_4 4 L st u) : RunB (d + 1) Y_W_write 4 L st u Q := run_go ok_W_write (by decide) h
theorem rb_W_write_5 {d : Nat} {L : List (Option MV)} {st : List MV} {u : Mem} {Q : Option MV → Mem → Prop} (h : go d Y_W_write Q bk_W_write_5 5 L st u) : RunB (d + 1) Y_W_write 5 L st u Q := run_go ok_W_write (by decide) h
def bk_W_count_0 : List En := [(.iload_n 1, 1, 1, 0, [], g_0), (.tableswitch 126 0 8 #[51, 59, 67, 75, 85, 95, 105, 113, 121], 51, 10, 0, [1, 2, 3, 4, 5, 6, 7, 8, 9], g_0)]
def bk_W_count_1 : List En := [(.aload_n 0, 1, 0, 0, [], g_0), (.getfield 18, 3, 7, 1, [291], g_0), (.getfield 103, 3, 2, 5, [152], g_0), (.ireturn, 1, 0, 0, [], g_0)]
def bk_W_count_2 : List En := [(.aload_n 0, 1, 0, 0, [], g_0), (.getfield 18, 3, 7, 1, [291], g_0), (.getfield 270, 3, 2, 6, [154], g_0), (.ireturn, 1, 0, 0, [], g_0)]
def bk_W_count_3 : List En := [(.aload_n 0, 1, 0, 0, [], g_0), (.getfield 18, 3, 7, 1, [291], g_0), (.getfield 273, 3, 2, 7, [157], g_0), (.ireturn, 1, 0, 0, [], g_0)]
def bk_W_count_4 : List En := [(.aload_n 0, 1, 0, 0, [], g_0), (.getfield 11, 3, 7, 0, [290], g_0), (.iconst 0, 1, 0, 0, [], g_0), (.aaload, 1, 0, 0, [], g_0), (.getfield 94, 3, 6, 1, [255], g_0), (.ireturn, 1, 0, 0, [], g_0)]
def bk_W_count_5 : List En := [(.aload_n 0, 1, 0, 0, [], g_0), (.getfield 11, 3, 7, 0, [290], g_0), (.iconst 1, 1, 1, 0, [], g_0), (.aaload, 1, 0, 0, [], g_0), (.getfield 94, 3, 6, 1, [255], g_0), (.ireturn, 1, 0, 0, [], g_0)]
def bk_W_count_6 : List En := [(.aload_n 0, 1, 0, 0, [], g_0), (.getfield 11, 3, 7, 0, [290], g_0), (.iconst 2, 1, 2, 0, [], g_0), (.aaload, 1, 0, 0, [], g_0), (.getfield 94, 3, 6, 1, [255], g_0), (.ireturn, 1, 0, 0, [], g_0)]
def bk_W_count_7 : List En := [(.aload_n 0, 1, 0, 0, [], g_0), (.getfield 18, 3, 7, 1, [291], g_0), (.getfield 135, 3, 2, 8, [160], g_0), (.ireturn, 1, 0, 0, [], g_0)]
def bk_W_count_8 : List En := [(.aload_n 0, 1, 0, 0, [], g_0), (.getfield 43, 3, 7, 5, [295], g_0), (.getfield 201, 3, 4, 3, [233], g_0), (.ireturn, 1, 0, 0, [], g_0)]
def bk_W_count_9 : List En := [(.aload_n 0, 1, 0, 0, [], g_0), (.getfield 71, 3, 7, 12, [302], g_0), (.ireturn, 1, 0, 0, [], g_0)]
def bk_W_count_10 : List En := [(.bipush (-2), 2, 2, 1, [], g_0), (.ireturn, 1, 0, 0, [], g_0)]
def cd_W_count : Cd := [(0, bk_W_count_0), (52, bk_W_count_1), (60, bk_W_count_2), (68, bk_W_count_3), (76, bk_W_count_4), (86, bk_W_count_5), (96, bk_W_count_6), (106, bk_W_count_7), (114, bk_W_count_8), (122, bk_W_count_9), (127, bk_W_count_10), (130, [])]
def Y_W_count : Mth := (g_W_count, RW, cd_W_count)
set_option maxRecDepth 20000 in
theorem ok_W_count : okM Y_W_count = true := by decide +kernel
theorem en_W_count {d : Nat} {u : Mem} {Q : Option MV → Mem → Prop} (as : List MV) (hc : cats as ≤ 2) (h : RunB d Y_W_count 0 (argL as 2) [] u Q) : OKm d g_W_count as u Q := OKm.of (Y := Y_W_count) ok_W_count hc h
theorem rb_W_count_0 {d : Nat} {L : List (Option MV)} {st : List MV} {u : Mem} {Q : Option MV → Mem → Prop} (h : go d Y_W_count Q bk_W_count_0 0 L st u) : RunB (d + 1) Y_W_count 0 L st u Q := run_go ok_W_count (by decide) h
theorem rb_W_count_1 {d : Nat} {L : List (Option MV)} {st : List MV} {u : Mem} {Q : Option MV → Mem → Prop} (h : go d Y_W_count Q bk_W_count_1 1 L st u) : RunB (d + 1) Y_W_count 1 L st u Q := run_go ok_W_count (by decide) h
theorem rb_W_count_2 {d : Nat} {L : List (Option MV)} {st : List MV} {u : Mem} {Q : Option MV → Mem → Prop} (h : go d Y_W_count Q bk_W_count_2 2 L st u) : RunB (d + 1) Y_W_count 2 L st u Q := run_go ok_W_count (by decide) h
theorem rb_W_count_3 {d : Nat} {L : List (Option MV)} {st : List MV} {u : Mem} {Q : Option MV → Mem → Prop} (h : go d Y_W_count Q bk_W_count_3 3 L st u) : RunB (d + 1) Y_W_count 3 L st u Q := run_go ok_W_count (by decide) h
theorem rb_W_count_4 {d : Nat} {L : List (Option MV)} {st : List MV} {u : Mem} {Q : Option MV → Mem → Prop} (h : go d Y_W_count Q bk_W_count_4 4 L st u) : RunB (d + 1) Y_W_count 4 L st u Q := run_go ok_W_count (by decide) h
theorem rb_W_count_5 {d : Nat} {L : List (Option MV)} {st : List MV} {u : Mem} {Q : Option MV → Mem → Prop} (h : go d Y_W_count Q bk_W_count_5 5 L st u) : RunB (d + 1) Y_W_count 5 L st u Q := run_go ok_W_count (by decide) h
theorem rb_W_count_6 {d : Nat} {L : List (Option MV)} {st : List MV} {u : Mem} {Q : Option MV → Mem → Prop} (h : go d Y_W_count Q bk_W_count_6 6 L st u) : RunB (d + 1) Y_W_count 6 L st u Q := run_go ok_W_count (by decide) h
theorem rb_W_count_7 {d : Nat} {L : List (Option MV)} {st : List MV} {u : Mem} {Q : Option MV → Mem → Prop} (h : go d Y_W_count Q bk_W_count_7 7 L st u) : RunB (d + 1) Y_W_count 7 L st u Q := run_go ok_W_count (by decide) h
theorem rb_W_count_8 {d : Nat} {L : List (Option MV)} {st : List MV} {u : Mem} {Q : Option MV → Mem → Prop} (h : go d Y_W_count Q bk_W_count_8 8 L st u) : RunB (d + 1) Y_W_count 8 L st u Q := run_go ok_W_count (by decide) h
theorem rb_W_count_9 {d : Nat} {L : List (Option MV)} {st : List MV} {u : Mem} {Q : Option MV → Mem → Prop} (h : go d Y_W_count Q bk_W_count_9 9 L st u) : RunB (d + 1) Y_W_count 9 L st u Q := run_go ok_W_count (by decide) h
theorem rb_W_count_10 {d : Nat} {L : List (Option MV)} {st : List MV} {u : Mem} {Q : Option MV → Mem → Prop} (h : go d Y_W_count Q bk_W_count_10 10 L st u) : RunB (d + 1) Y_W_count 10 L st u Q := run_go ok_W_count (by decide) h
def bk_W_digest_0 : List En := [(.ldc2_w 276, 3, 17, 0, [723], g_0), (.lstore_n 1, 1, 1, 0, [], g_0), (.iconst 0, 1, 0, 0, [], g_0), (.istore_n 3, 1, 3, 0, [], g_0)]
def bk_W_digest_1 : List En := [(.iload_n 3, 1, 3, 0, [], g_0), (.bipush 8, 2, 8, 0, [], g_0), (.if_icmp .ge 22, 3, 2, 0, [], g_0), (.ldc2_w 278, 3, 31, 0, [724], g_0), (.lload_n 1, 1, 1, 0, [], g_0), (.lmul, 1, 0, 0, [], g_0), (.aload_n 0, 1, 0, 0, [], g_0), (.iload_n 3, 1, 3, 0, [], g_0), (.invokevirtual 280, 3, 1, 7, [725, 716, 717, 67, 718], g_W_count), (.i2l, 1, 0, 0, [], g_0), (.ladd, 1, 0, 0, [], g_0), (.lstore_n 1, 1, 1, 0, [], g_0), (.iinc 3 1, 3, 3, 1, [0], g_0), (.goto (-22), 3, 1, 0, [], g_0)]
def bk_W_digest_2 : List En := [(.iconst 0, 1, 0, 0, [], g_0), (.istore_n 3, 1, 3, 0, [], g_0)]
def bk_W_digest_3 : List En := [(.iload_n 3, 1, 3, 0, [], g_0), (.iconst 3, 1, 3, 0, [], g_0), (.if_icmp .ge 22, 3, 4, 0, [], g_0), (.ldc2_w 278, 3, 31, 0, [724], g_0), (.lload_n 1, 1, 1, 0, [], g_0), (.lmul, 1, 0, 0, [], g_0), (.aload_n 0, 1, 0, 0, [], g_0), (.iload_n 3, 1, 3, 0, [], g_0), (.invokevirtual 282, 3, 1, 7, [726, 390, 391, 67, 392], g_W_fault), (.i2l, 1, 0, 0, [], g_0), (.ladd, 1, 0, 0, [], g_0), (.lstore_n 1, 1, 1, 0, [], g_0), (.iinc 3 1, 3, 3, 1, [0], g_0), (.goto (-21), 3, 3, 0, [], g_0)]
def bk_W_digest_4 : List En := [(.aload_n 0, 1, 0, 0, [], g_0), (.lload_n 1, 1, 1, 0, [], g_0), (.iconst 0, 1, 0, 0, [], g_0), (.invokevirtual 284, 3, 2, 7, [727, 729, 24, 67, 730], g_W_digestDay), (.lstore_n 1, 1, 1, 0, [], g_0), (.aload_n 0, 1, 0, 0, [], g_0), (.lload_n 1, 1, 1, 0, [], g_0), (.iconst 4, 1, 4, 0, [], g_0), (.invokevirtual 284, 3, 2, 7, [727, 729, 24, 67, 730], g_W_digestDay), (.lstore_n 1, 1, 1, 0, [], g_0), (.aload_n 0, 1, 0, 0, [], g_0), (.lload_n 1, 1, 1, 0, [], g_0), (.bipush 9, 2, 9, 0, [], g_0), (.invokevirtual 284, 3, 2, 7, [727, 729, 24, 67, 730], g_W_digestDay), (.lstore_n 1, 1, 1, 0, [], g_0), (.aload_n 0, 1, 0, 0, [], g_0), (.lload_n 1, 1, 1, 0, [], g_0), (.bipush 19, 2, 19, 0, [], g_0), (.invokevirtual 284, 3, 2, 7, [727, 729, 24, 67, 730], g_W_digestDay), (.lstore_n 1, 1, 1, 0, [], g_0), (.iconst 0, 1, 0, 0, [], g_0), (.istore_n 3, 1, 3, 0, [], g_0)]
def bk_W_digest_5 : List En := [(.iload_n 3, 1, 3, 0, [], g_0), (.bipush 6, 2, 6, 0, [], g_0), (.if_icmp .ge 22, 3, 6, 0, [], g_0), (.ldc2_w 278, 3, 31, 0, [724], g_0), (.lload_n 1, 1, 1, 0, [], g_0), (.lmul, 1, 0, 0, [], g_0), (.aload_n 0, 1, 0, 0, [], g_0), (.iload_n 3, 1, 3, 0, [], g_0), (.invokevirtual 288, 3, 1, 7, [735, 406, 407, 67, 408], g_W_law), (.i2l, 1, 0, 0, [], g_0), (.ladd, 1, 0, 0, [], g_0), (.lstore_n 1, 1, 1, 0, [], g_0), (.iinc 3 1, 3, 3, 1, [0], g_0), (.goto (-22), 3, 5, 0, [], g_0)]
def bk_W_digest_6 : List En := [(.iconst 0, 1, 0, 0, [], g_0), (.istore_n 3, 1, 3, 0, [], g_0)]
def bk_W_digest_7 : List En := [(.iload_n 3, 1, 3, 0, [], g_0), (.aload_n 0, 1, 0, 0, [], g_0), (.getfield 18, 3, 7, 1, [291], g_0), (.getfield 103, 3, 2, 5, [152], g_0), (.if_icmp .ge 16, 3, 8, 0, [], g_0), (.aload_n 0, 1, 0, 0, [], g_0), (.lload_n 1, 1, 1, 0, [], g_0), (.iload_n 3, 1, 3, 0, [], g_0), (.invokevirtual 290, 3, 2, 7, [736, 738, 25, 67, 739], g_W_digestBill), (.lstore_n 1, 1, 1, 0, [], g_0), (.iinc 3 1, 3, 3, 1, [0], g_0), (.goto (-21), 3, 7, 0, [], g_0)]
def bk_W_digest_8 : List En := [(.ldc2_w 278, 3, 31, 0, [724], g_0), (.lload_n 1, 1, 1, 0, [], g_0), (.lmul, 1, 0, 0, [], g_0), (.aload_n 0, 1, 0, 0, [], g_0), (.iconst 0, 1, 0, 0, [], g_0), (.invokevirtual 293, 3, 1, 7, [741, 492, 493, 67, 494], g_W_days), (.i2l, 1, 0, 0, [], g_0), (.ladd, 1, 0, 0, [], g_0), (.lstore_n 1, 1, 1, 0, [], g_0), (.ldc2_w 278, 3, 31, 0, [724], g_0), (.lload_n 1, 1, 1, 0, [], g_0), (.lmul, 1, 0, 0, [], g_0), (.aload_n 0, 1, 0, 0, [], g_0), (.iconst 1, 1, 1, 0, [], g_0), (.invokevirtual 293, 3, 1, 7, [741, 492, 493, 67, 494], g_W_days), (.i2l, 1, 0, 0, [], g_0), (.ladd, 1, 0, 0, [], g_0), (.lstore_n 1, 1, 1, 0, [], g_0), (.ldc2_w 278, 3, 31, 0, [724], g_0), (.lload_n 1, 1, 1, 0, [], g_0), (.lmul, 1, 0, 0, [], g_0), (.aload_n 0, 1, 0, 0, [], g_0), (.invokevirtual 296, 3, 0, 7, [742, 501, 502, 67, 503], g_W_unread), (.i2l, 1, 0, 0, [], g_0), (.ladd, 1, 0, 0, [], g_0), (.lstore_n 1, 1, 1, 0, [], g_0), (.ldc2_w 278, 3, 31, 0, [724], g_0), (.lload_n 1, 1, 1, 0, [], g_0), (.lmul, 1, 0, 0, [], g_0), (.aload_n 0, 1, 0, 0, [], g_0), (.invokevirtual 299, 3, 0, 7, [743, 517, 518, 67, 519], g_W_often), (.i2l, 1, 0, 0, [], g_0), (.ladd, 1, 0, 0, [], g_0), (.lstore_n 1, 1, 1, 0, [], g_0), (.ldc2_w 278, 3, 31, 0, [724], g_0), (.lload_n 1, 1, 1, 0, [], g_0), (.lmul, 1, 0, 0, [], g_0), (.aload_n 0, 1, 0, 0, [], g_0), (.invokevirtual 302, 3, 0, 7, [744, 586, 587, 67, 588], g_W_never), (.i2l, 1, 0, 0, [], g_0), (.ladd, 1, 0, 0, [], g_0), (.lstore_n 1, 1, 1, 0, [], g_0), (.aload_n 0, 1, 0, 0, [], g_0), (.iconst 5, 1, 5, 0, [], g_0), (.bipush 7, 2, 7, 0, [], g_0), (.bipush 19, 2, 19, 0, [], g_0), (.invokevirtual 226, 3, 3, 7, [633, 635, 20, 67, 636], g_W_findShower), (.ldc2_w 278, 3, 31, 0, [724], g_0), (.lload_n 1, 1, 1, 0, [], g_0), (.lmul, 1, 0, 0, [], g_0), (.aload_n 0, 1, 0, 0, [], g_0), (.getfield 63, 3, 7, 10, [300], g_0), (.iconst 0, 1, 0, 0, [], g_0), (.laload, 1, 0, 0, [], g_0), (.ladd, 1, 0, 0, [], g_0), (.lstore_n 1, 1, 1, 0, [], g_0), (.ldc2_w 278, 3, 31, 0, [724], g_0), (.lload_n 1, 1, 1, 0, [], g_0), (.lmul, 1, 0, 0, [], g_0), (.aload_n 0, 1, 0, 0, [], g_0), (.getfield 63, 3, 7, 10, [300], g_0), (.iconst 1, 1, 1, 0, [], g_0), (.laload, 1, 0, 0, [], g_0), (.ladd, 1, 0, 0, [], g_0), (.lstore_n 1, 1, 1, 0, [], g_0), (.ldc2_w 278, 3, 31, 0, [724], g_0), (.lload_n 1, 1, 1, 0, [], g_0), (.lmul, 1, 0, 0, [], g_0), (.aload_n 0, 1, 0, 0, [], g_0), (.bipush 7, 2, 7, 0, [], g_0), (.bipush 15, 2, 15, 0, [], g_0), (.iconst 0, 1, 0, 0, [], g_0), (.invokevirtual 305, 3, 3, 7, [745, 658, 659, 67, 660], g_W_season), (.i2l, 1, 0, 0, [], g_0), (.ladd, 1, 0, 0, [], g_0), (.lstore_n 1, 1, 1, 0, [], g_0), (.ldc2_w 278, 3, 31, 0, [724], g_0), (.lload_n 1, 1, 1, 0, [], g_0), (.lmul, 1, 0, 0, [], g_0), (.aload_n 0, 1, 0, 0, [], g_0), (.bipush 7, 2, 7, 0, [], g_0), (.bipush 15, 2, 15, 0, [], g_0), (.iconst 1, 1, 1, 0, [], g_0), (.invokevirtual 305, 3, 3, 7, [745, 658, 659, 67, 660], g_W_season), (.i2l, 1, 0, 0, [], g_0), (.ladd, 1, 0, 0, [], g_0), (.lreturn, 1, 0, 0, [], g_0)]
def cd_W_digest : Cd := [(0, bk_W_digest_0), (6, bk_W_digest_1), (31, bk_W_digest_2), (33, bk_W_digest_3), (57, bk_W_digest_4), (89, bk_W_digest_5), (114, bk_W_digest_6), (116, bk_W_digest_7), (140, bk_W_digest_8), (271, [])]
def Y_W_digest : Mth := (g_W_digest, RW, cd_W_digest)
set_option maxRecDepth 20000 in
theorem ok_W_digest : okM Y_W_digest = true := by decide +kernel
theorem en_W_digest {d : Nat} {u : Mem} {Q : Option MV → Mem → Prop} (as : List MV) (hc : cats as ≤ 4) (h : RunB d Y_W_digest 0 (argL as 4) [] u Q) : OKm d g_W_digest as u Q := OKm.of (Y := Y_W_digest) ok_W_digest hc h
theorem rb_W_digest_0 {d : Nat} {L : List (Option MV)} {st : List MV} {u : Mem} {Q : Option MV → Mem → Prop} (h : go d Y_W_digest Q bk_W_digest_0 0 L st u) : RunB (d + 1) Y_W_digest 0 L st u Q := run_go ok_W_digest (by decide) h
theorem rb_W_digest_1 {d : Nat} {L : List (Option MV)} {st : List MV} {u : Mem} {Q : Option MV → Mem → Prop} (h : go d Y_W_digest Q bk_W_digest_1 1 L st u) : RunB (d + 1) Y_W_digest 1 L st u Q := run_go ok_W_digest (by decide) h
theorem rb_W_digest_2 {d : Nat} {L : List (Option MV)} {st : List MV} {u : Mem} {Q : Option MV → Mem → Prop} (h : go d Y_W_digest Q bk_W_digest_2 2 L st u) : RunB (d + 1) Y_W_digest 2 L st u Q := run_go ok_W_digest (by decide) h
theorem rb_W_digest_3 {d : Nat} {L : List (Option MV)} {st : List MV} {u : Mem} {Q : Option MV → Mem → Prop} (h : go d Y_W_digest Q bk_W_digest_3 3 L st u) : RunB (d + 1) Y_W_digest 3 L st u Q := run_go ok_W_digest (by decide) h
theorem rb_W_digest_4 {d : Nat} {L : List (Option MV)} {st : List MV} {u : Mem} {Q : Option MV → Mem → Prop} (h : go d Y_W_digest Q bk_W_digest_4 4 L st u) : RunB (d + 1) Y_W_digest 4 L st u Q := run_go ok_W_digest (by decide) h
theorem rb_W_digest_5 {d : Nat} {L : List (Option MV)} {st : List MV} {u : Mem} {Q : Option MV → Mem → Prop} (h : go d Y_W_digest Q bk_W_digest_5 5 L st u) : RunB (d + 1) Y_W_digest 5 L st u Q := run_go ok_W_digest (by decide) h
theorem rb_W_digest_6 {d : Nat} {L : List (Option MV)} {st : List MV} {u : Mem} {Q : Option MV → Mem → Prop} (h : go d Y_W_digest Q bk_W_digest_6 6 L st u) : RunB (d + 1) Y_W_digest 6 L st u Q := run_go ok_W_digest (by decide) h
theorem rb_W_digest_7 {d : Nat} {L : List (Option MV)} {st : List MV} {u : Mem} {Q : Option MV → Mem → Prop} (h : go d Y_W_digest Q bk_W_digest_7 7 L st u) : RunB (d + 1) Y_W_digest 7 L st u Q := run_go ok_W_digest (by decide) h
theorem rb_W_digest_8 {d : Nat} {L : List (Option MV)} {st : List MV} {u : Mem} {Q : Option MV → Mem → Prop} (h : go d Y_W_digest Q bk_W_digest_8 8 L st u) : RunB (d + 1) Y_W_digest 8 L st u Q := run_go ok_W_digest (by decide) h
def bk_W_digestDay_0 : List En := [(.ldc2_w 278, 3, 31, 0, [724], g_0), (.lload_n 1, 1, 1, 0, [], g_0), (.lmul, 1, 0, 0, [], g_0), (.aload_n 0, 1, 0, 0, [], g_0), (.iload_n 3, 1, 3, 0, [], g_0), (.invokevirtual 308, 3, 1, 7, [731, 402, 403, 67, 404], g_W_rain), (.i2l, 1, 0, 0, [], g_0), (.ladd, 1, 0, 0, [], g_0), (.lstore 4, 2, 4, 0, [], g_0), (.ldc2_w 278, 3, 31, 0, [724], g_0), (.lload 4, 2, 4, 0, [], g_0), (.lmul, 1, 0, 0, [], g_0), (.aload_n 0, 1, 0, 0, [], g_0), (.iload_n 3, 1, 3, 0, [], g_0), (.invokevirtual 311, 3, 1, 7, [732, 483, 484, 67, 485], g_W_obeyed), (.i2l, 1, 0, 0, [], g_0), (.ladd, 1, 0, 0, [], g_0), (.lstore 4, 2, 4, 0, [], g_0), (.aload_n 0, 1, 0, 0, [], g_0), (.iload_n 3, 1, 3, 0, [], g_0), (.invokevirtual 177, 3, 1, 7, [525, 527, 8, 67, 528], g_W_findRip), (.ldc2_w 278, 3, 31, 0, [724], g_0), (.lload 4, 2, 4, 0, [], g_0), (.lmul, 1, 0, 0, [], g_0), (.aload_n 0, 1, 0, 0, [], g_0), (.getfield 60, 3, 7, 9, [299], g_0), (.iconst 0, 1, 0, 0, [], g_0), (.iaload, 1, 0, 0, [], g_0), (.i2l, 1, 0, 0, [], g_0), (.ladd, 1, 0, 0, [], g_0), (.lstore 4, 2, 4, 0, [], g_0), (.ldc2_w 278, 3, 31, 0, [724], g_0), (.lload 4, 2, 4, 0, [], g_0), (.lmul, 1, 0, 0, [], g_0), (.aload_n 0, 1, 0, 0, [], g_0), (.getfield 60, 3, 7, 9, [299], g_0), (.iconst 1, 1, 1, 0, [], g_0), (.iaload, 1, 0, 0, [], g_0), (.i2l, 1, 0, 0, [], g_0), (.ladd, 1, 0, 0, [], g_0), (.lstore 4, 2, 4, 0, [], g_0), (.ldc2_w 278, 3, 31, 0, [724], g_0), (.lload 4, 2, 4, 0, [], g_0), (.lmul, 1, 0, 0, [], g_0), (.aload_n 0, 1, 0, 0, [], g_0), (.iload_n 3, 1, 3, 0, [], g_0), (.invokevirtual 314, 3, 1, 7, [733, 550, 551, 67, 552], g_W_wet), (.i2l, 1, 0, 0, [], g_0), (.ladd, 1, 0, 0, [], g_0), (.lstore 4, 2, 4, 0, [], g_0), (.iconst 0, 1, 0, 0, [], g_0), (.istore 6, 2, 6, 0, [], g_0)]
def bk_W_digestDay_1 : List En := [(.iload 6, 2, 6, 0, [], g_0), (.bipush 6, 2, 6, 0, [], g_0), (.if_icmp .ge 44, 3, 4, 0, [], g_0), (.iconst 0, 1, 0, 0, [], g_0), (.istore 7, 2, 7, 0, [], g_0)]
def bk_W_digestDay_2 : List En := [(.iload 7, 2, 7, 0, [], g_0), (.bipush 6, 2, 6, 0, [], g_0), (.if_icmp .ge 28, 3, 3, 0, [], g_0), (.ldc2_w 278, 3, 31, 0, [724], g_0), (.lload 4, 2, 4, 0, [], g_0), (.lmul, 1, 0, 0, [], g_0), (.aload_n 0, 1, 0, 0, [], g_0), (.iload_n 3, 1, 3, 0, [], g_0), (.iload 6, 2, 6, 0, [], g_0), (.iload 7, 2, 7, 0, [], g_0), (.invokevirtual 317, 3, 3, 7, [734, 436, 437, 67, 438], g_W_at), (.i2l, 1, 0, 0, [], g_0), (.ladd, 1, 0, 0, [], g_0), (.lstore 4, 2, 4, 0, [], g_0), (.iinc 7 1, 3, 7, 1, [0], g_0), (.goto (-29), 3, 2, 0, [], g_0)]
def bk_W_digestDay_3 : List En := [(.iinc 6 1, 3, 6, 1, [0], g_0), (.goto (-45), 3, 1, 0, [], g_0)]
def bk_W_digestDay_4 : List En := [(.lload 4, 2, 4, 0, [], g_0), (.lreturn, 1, 0, 0, [], g_0)]
def cd_W_digestDay : Cd := [(0, bk_W_digestDay_0), (84, bk_W_digestDay_1), (94, bk_W_digestDay_2), (126, bk_W_digestDay_3), (132, bk_W_digestDay_4), (135, [])]
def Y_W_digestDay : Mth := (g_W_digestDay, RW, cd_W_digestDay)
set_option maxRecDepth 20000 in
theorem ok_W_digestDay : okM Y_W_digestDay = true := by decide +kernel
theorem en_W_digestDay {d : Nat} {u : Mem} {Q : Option MV → Mem → Prop} (as : List MV) (hc : cats as ≤ 8) (h : RunB d Y_W_digestDay 0 (argL as 8) [] u Q) : OKm d g_W_digestDay as u Q := OKm.of (Y := Y_W_digestDay) ok_W_digestDay hc h
theorem rb_W_digestDay_0 {d : Nat} {L : List (Option MV)} {st : List MV} {u : Mem} {Q : Option MV → Mem → Prop} (h : go d Y_W_digestDay Q bk_W_digestDay_0 0 L st u) : RunB (d + 1) Y_W_digestDay 0 L st u Q := run_go ok_W_digestDay (by decide) h
theorem rb_W_digestDay_1 {d : Nat} {L : List (Option MV)} {st : List MV} {u : Mem} {Q : Option MV → Mem → Prop} (h : go d Y_W_digestDay Q bk_W_digestDay_1 1 L st u) : RunB (d + 1) Y_W_digestDay 1 L st u Q := run_go ok_W_digestDay (by decide) h
theorem rb_W_digestDay_2 {d : Nat} {L : List (Option MV)} {st : List MV} {u : Mem} {Q : Option MV → Mem → Prop} (h : go d Y_W_digestDay Q bk_W_digestDay_2 2 L st u) : RunB (d + 1) Y_W_digestDay 2 L st u Q := run_go ok_W_digestDay (by decide) h
theorem rb_W_digestDay_3 {d : Nat} {L : List (Option MV)} {st : List MV} {u : Mem} {Q : Option MV → Mem → Prop} (h : go d Y_W_digestDay Q bk_W_digestDay_3 3 L st u) : RunB (d + 1) Y_W_digestDay 3 L st u Q := run_go ok_W_digestDay (by decide) h
theorem rb_W_digestDay_4 {d : Nat} {L : List (Option MV)} {st : List MV} {u : Mem} {Q : Option MV → Mem → Prop} (h : go d Y_W_digestDay Q bk_W_digestDay_4 4 L st u) : RunB (d + 1) Y_W_digestDay 4 L st u Q := run_go ok_W_digestDay (by decide) h
end
section
def bk_W_digestBill_0 : List En := [(.lload_n 1, 1, 1, 0, [], g_0), (.lstore 4, 2, 4, 0, [], g_0), (.iconst 0, 1, 0, 0, [], g_0), (.istore 6, 2, 6, 0, [], g_0)]
def bk_W_digestBill_1 : List En := [(.iload 6, 2, 6, 0, [], g_0), (.bipush 9, 2, 9, 0, [], g_0), (.if_icmp .ge 26, 3, 2, 0, [], g_0), (.ldc2_w 278, 3, 31, 0, [724], g_0), (.lload 4, 2, 4, 0, [], g_0), (.lmul, 1, 0, 0, [], g_0), (.aload_n 0, 1, 0, 0, [], g_0), (.iload_n 3, 1, 3, 0, [], g_0), (.iload 6, 2, 6, 0, [], g_0), (.invokevirtual 320, 3, 2, 7, [740, 394, 395, 67, 396], g_W_poster), (.i2l, 1, 0, 0, [], g_0), (.ladd, 1, 0, 0, [], g_0), (.lstore 4, 2, 4, 0, [], g_0), (.iinc 6 1, 3, 6, 1, [0], g_0), (.goto (-27), 3, 1, 0, [], g_0)]
def bk_W_digestBill_2 : List En := [(.aload_n 0, 1, 0, 0, [], g_0), (.aload_n 0, 1, 0, 0, [], g_0), (.getfield 18, 3, 7, 1, [291], g_0), (.getfield 106, 3, 2, 0, [140], g_0), (.iload_n 3, 1, 3, 0, [], g_0), (.aaload, 1, 0, 0, [], g_0), (.invokevirtual 194, 3, 1, 7, [557, 559, 12, 67, 560], g_W_findPaste), (.ldc2_w 278, 3, 31, 0, [724], g_0), (.lload 4, 2, 4, 0, [], g_0), (.lmul, 1, 0, 0, [], g_0), (.aload_n 0, 1, 0, 0, [], g_0), (.getfield 60, 3, 7, 9, [299], g_0), (.iconst 0, 1, 0, 0, [], g_0), (.iaload, 1, 0, 0, [], g_0), (.i2l, 1, 0, 0, [], g_0), (.ladd, 1, 0, 0, [], g_0), (.lstore 4, 2, 4, 0, [], g_0), (.ldc2_w 278, 3, 31, 0, [724], g_0), (.lload 4, 2, 4, 0, [], g_0), (.lmul, 1, 0, 0, [], g_0), (.aload_n 0, 1, 0, 0, [], g_0), (.getfield 60, 3, 7, 9, [299], g_0), (.iconst 1, 1, 1, 0, [], g_0), (.iaload, 1, 0, 0, [], g_0), (.i2l, 1, 0, 0, [], g_0), (.ladd, 1, 0, 0, [], g_0), (.lstore 4, 2, 4, 0, [], g_0), (.aload_n 0, 1, 0, 0, [], g_0), (.aload_n 0, 1, 0, 0, [], g_0), (.getfield 18, 3, 7, 1, [291], g_0), (.getfield 106, 3, 2, 0, [140], g_0), (.iload_n 3, 1, 3, 0, [], g_0), (.aaload, 1, 0, 0, [], g_0), (.invokevirtual 198, 3, 1, 7, [565, 567, 13, 67, 568], g_W_findStick), (.ldc2_w 278, 3, 31, 0, [724], g_0), (.lload 4, 2, 4, 0, [], g_0), (.lmul, 1, 0, 0, [], g_0), (.aload_n 0, 1, 0, 0, [], g_0), (.getfield 60, 3, 7, 9, [299], g_0), (.iconst 0, 1, 0, 0, [], g_0), (.iaload, 1, 0, 0, [], g_0), (.i2l, 1, 0, 0, [], g_0), (.ladd, 1, 0, 0, [], g_0), (.lstore 4, 2, 4, 0, [], g_0), (.ldc2_w 278, 3, 31, 0, [724], g_0), (.lload 4, 2, 4, 0, [], g_0), (.lmul, 1, 0, 0, [], g_0), (.aload_n 0, 1, 0, 0, [], g_0), (.getfield 60, 3, 7, 9, [299], g_0), (.iconst 1, 1, 1, 0, [], g_0), (.iaload, 1, 0, 0, [], g_0), (.i2l, 1, 0, 0, [], g_0), (.ladd, 1, 0, 0, [], g_0), (.lstore 4, 2, 4, 0, [], g_0), (.ldc2_w 278, 3, 31, 0, [724], g_0), (.lload 4, 2, 4, 0, [], g_0), (.lmul, 1, 0, 0, [], g_0), (.aload_n 0, 1, 0, 0, [], g_0), (.getfield 60, 3, 7, 9, [299], g_0), (.iconst 2, 1, 2, 0, [], g_0), (.iaload, 1, 0, 0, [], g_0), (.i2l, 1, 0, 0, [], g_0), (.ladd, 1, 0, 0, [], g_0), (.lstore 4, 2, 4, 0, [], g_0), (.ldc2_w 278, 3, 31, 0, [724], g_0), (.lload 4, 2, 4, 0, [], g_0), (.lmul, 1, 0, 0, [], g_0), (.aload_n 0, 1, 0, 0, [], g_0), (.aload_n 0, 1, 0, 0, [], g_0), (.getfield 18, 3, 7, 1, [291], g_0), (.getfield 106, 3, 2, 0, [140], g_0), (.iload_n 3, 1, 3, 0, [], g_0), (.aaload, 1, 0, 0, [], g_0), (.invokevirtual 214, 3, 1, 7, [602, 604, 15, 67, 605], g_W_thicks), (.i2l, 1, 0, 0, [], g_0), (.ladd, 1, 0, 0, [], g_0), (.lstore 4, 2, 4, 0, [], g_0), (.ldc2_w 278, 3, 31, 0, [724], g_0), (.lload 4, 2, 4, 0, [], g_0), (.lmul, 1, 0, 0, [], g_0), (.aload_n 0, 1, 0, 0, [], g_0), (.aload_n 0, 1, 0, 0, [], g_0), (.getfield 18, 3, 7, 1, [291], g_0), (.getfield 106, 3, 2, 0, [140], g_0), (.iload_n 3, 1, 3, 0, [], g_0), (.aaload, 1, 0, 0, [], g_0), (.invokevirtual 218, 3, 1, 7, [606, 608, 16, 67, 609], g_W_years), (.i2l, 1, 0, 0, [], g_0), (.ladd, 1, 0, 0, [], g_0), (.lstore 4, 2, 4, 0, [], g_0), (.ldc2_w 278, 3, 31, 0, [724], g_0), (.lload 4, 2, 4, 0, [], g_0), (.lmul, 1, 0, 0, [], g_0), (.aload_n 0, 1, 0, 0, [], g_0), (.invokevirtual 221, 3, 0, 7, [619, 621, 18, 67, 622], g_W_columnToAsk), (.i2l, 1, 0, 0, [], g_0), (.ladd, 1, 0, 0, [], g_0), (.lreturn, 1, 0, 0, [], g_0)]
def cd_W_digestBill : Cd := [(0, bk_W_digestBill_0), (6, bk_W_digestBill_1), (36, bk_W_digestBill_2), (201, [])]
def Y_W_digestBill : Mth := (g_W_digestBill, RW, cd_W_digestBill)
set_option maxRecDepth 20000 in
theorem ok_W_digestBill : okM Y_W_digestBill = true := by decide +kernel
theorem en_W_digestBill {d : Nat} {u : Mem} {Q : Option MV → Mem → Prop} (as : List MV) (hc : cats as ≤ 7) (h : RunB d Y_W_digestBill 0 (argL as 7) [] u Q) : OKm d g_W_digestBill as u Q := OKm.of (Y := Y_W_digestBill) ok_W_digestBill hc h
theorem rb_W_digestBill_0 {d : Nat} {L : List (Option MV)} {st : List MV} {u : Mem} {Q : Option MV → Mem → Prop} (h : go d Y_W_digestBill Q bk_W_digestBill_0 0 L st u) : RunB (d + 1) Y_W_digestBill 0 L st u Q := run_go ok_W_digestBill (by decide) h
theorem rb_W_digestBill_1 {d : Nat} {L : List (Option MV)} {st : List MV} {u : Mem} {Q : Option MV → Mem → Prop} (h : go d Y_W_digestBill Q bk_W_digestBill_1 1 L st u) : RunB (d + 1) Y_W_digestBill 1 L st u Q := run_go ok_W_digestBill (by decide) h
theorem rb_W_digestBill_2 {d : Nat} {L : List (Option MV)} {st : List MV} {u : Mem} {Q : Option MV → Mem → Prop} (h : go d Y_W_digestBill Q bk_W_digestBill_2 2 L st u) : RunB (d + 1) Y_W_digestBill 2 L st u Q := run_go ok_W_digestBill (by decide) h
def bk_W_isBelow_0 : List En := [(.iload_n 0, 1, 0, 0, [], g_0), (.ifCond .lt 12, 3, 1, 0, [], g_0), (.iload_n 0, 1, 0, 0, [], g_0), (.iload_n 1, 1, 1, 0, [], g_0), (.if_icmp .ge 7, 3, 1, 0, [], g_0), (.iconst 1, 1, 1, 0, [], g_0), (.goto 4, 3, 2, 0, [], g_0)]
def bk_W_isBelow_1 : List En := [(.iconst 0, 1, 0, 0, [], g_0)]
def bk_W_isBelow_2 : List En := [(.ireturn, 1, 0, 1, [], g_0)]
def cd_W_isBelow : Cd := [(0, bk_W_isBelow_0), (13, bk_W_isBelow_1), (14, bk_W_isBelow_2), (15, [])]
def Y_W_isBelow : Mth := (g_W_isBelow, RW, cd_W_isBelow)
set_option maxRecDepth 20000 in
theorem ok_W_isBelow : okM Y_W_isBelow = true := by decide +kernel
theorem en_W_isBelow {d : Nat} {u : Mem} {Q : Option MV → Mem → Prop} (as : List MV) (hc : cats as ≤ 2) (h : RunB d Y_W_isBelow 0 (argL as 2) [] u Q) : OKm d g_W_isBelow as u Q := OKm.of (Y := Y_W_isBelow) ok_W_isBelow hc h
theorem rb_W_isBelow_0 {d : Nat} {L : List (Option MV)} {st : List MV} {u : Mem} {Q : Option MV → Mem → Prop} (h : go d Y_W_isBelow Q bk_W_isBelow_0 0 L st u) : RunB (d + 1) Y_W_isBelow 0 L st u Q := run_go ok_W_isBelow (by decide) h
theorem rb_W_isBelow_1 {d : Nat} {L : List (Option MV)} {st : List MV} {u : Mem} {Q : Option MV → Mem → Prop} (h : go d Y_W_isBelow Q bk_W_isBelow_1 1 L st u) : RunB (d + 1) Y_W_isBelow 1 L st u Q := run_go ok_W_isBelow (by decide) h
theorem rb_W_isBelow_2 {d : Nat} {L : List (Option MV)} {st : List MV} {u : Mem} {Q : Option MV → Mem → Prop} (h : go d Y_W_isBelow Q bk_W_isBelow_2 2 L st u) : RunB (d + 1) Y_W_isBelow 2 L st u Q := run_go ok_W_isBelow (by decide) h
def bk_W_finding_0 : List En := [(.aload_n 0, 1, 0, 0, [], g_0), (.iload_n 1, 1, 1, 0, [], g_0), (.putfield 71, 3, 7, 12, [302], g_0), (.bipush (-10), 2, 10, 1, [], g_0), (.iload_n 1, 1, 1, 0, [], g_0), (.isub, 1, 0, 0, [], g_0), (.ireturn, 1, 0, 0, [], g_0)]
def cd_W_finding : Cd := [(0, bk_W_finding_0), (10, [])]
def Y_W_finding : Mth := (g_W_finding, RW, cd_W_finding)
set_option maxRecDepth 20000 in
theorem ok_W_finding : okM Y_W_finding = true := by decide +kernel
theorem en_W_finding {d : Nat} {u : Mem} {Q : Option MV → Mem → Prop} (as : List MV) (hc : cats as ≤ 2) (h : RunB d Y_W_finding 0 (argL as 2) [] u Q) : OKm d g_W_finding as u Q := OKm.of (Y := Y_W_finding) ok_W_finding hc h
theorem rb_W_finding_0 {d : Nat} {L : List (Option MV)} {st : List MV} {u : Mem} {Q : Option MV → Mem → Prop} (h : go d Y_W_finding Q bk_W_finding_0 0 L st u) : RunB (d + 1) Y_W_finding 0 L st u Q := run_go ok_W_finding (by decide) h
def bk_W_wrongWith_0 : List En := [(.aload_n 0, 1, 0, 0, [], g_0), (.getfield 142, 3, 3, 1, [276], g_0), (.ifCond .eq 5, 3, 1, 0, [], g_0), (.iconst 1, 1, 1, 0, [], g_0), (.ireturn, 1, 0, 0, [], g_0)]
def bk_W_wrongWith_1 : List En := [(.aload_n 0, 1, 0, 0, [], g_0), (.getfield 250, 3, 3, 2, [278], g_0), (.iload_n 1, 1, 1, 0, [], g_0), (.if_icmp .eq 5, 3, 2, 0, [], g_0), (.iconst 3, 1, 3, 0, [], g_0), (.ireturn, 1, 0, 0, [], g_0)]
def bk_W_wrongWith_2 : List En := [(.aload_n 0, 1, 0, 0, [], g_0), (.iload_n 2, 1, 2, 0, [], g_0), (.iconst 1, 1, 1, 0, [], g_0), (.invokevirtual 253, 3, 2, 3, [692, 693, 694, 76, 695], g_R_has), (.ifCond .eq 7, 3, 3, 0, [], g_0), (.iconst 0, 1, 0, 0, [], g_0), (.goto 4, 3, 4, 0, [], g_0)]
def bk_W_wrongWith_3 : List En := [(.iconst 2, 1, 2, 0, [], g_0)]
def bk_W_wrongWith_4 : List En := [(.ireturn, 1, 0, 0, [], g_0)]
def cd_W_wrongWith : Cd := [(0, bk_W_wrongWith_0), (9, bk_W_wrongWith_1), (19, bk_W_wrongWith_2), (32, bk_W_wrongWith_3), (33, bk_W_wrongWith_4), (34, [])]
def Y_W_wrongWith : Mth := (g_W_wrongWith, RW, cd_W_wrongWith)
set_option maxRecDepth 20000 in
theorem ok_W_wrongWith : okM Y_W_wrongWith = true := by decide +kernel
theorem en_W_wrongWith {d : Nat} {u : Mem} {Q : Option MV → Mem → Prop} (as : List MV) (hc : cats as ≤ 3) (h : RunB d Y_W_wrongWith 0 (argL as 3) [] u Q) : OKm d g_W_wrongWith as u Q := OKm.of (Y := Y_W_wrongWith) ok_W_wrongWith hc h
theorem rb_W_wrongWith_0 {d : Nat} {L : List (Option MV)} {st : List MV} {u : Mem} {Q : Option MV → Mem → Prop} (h : go d Y_W_wrongWith Q bk_W_wrongWith_0 0 L st u) : RunB (d + 1) Y_W_wrongWith 0 L st u Q := run_go ok_W_wrongWith (by decide) h
theorem rb_W_wrongWith_1 {d : Nat} {L : List (Option MV)} {st : List MV} {u : Mem} {Q : Option MV → Mem → Prop} (h : go d Y_W_wrongWith Q bk_W_wrongWith_1 1 L st u) : RunB (d + 1) Y_W_wrongWith 1 L st u Q := run_go ok_W_wrongWith (by decide) h
theorem rb_W_wrongWith_2 {d : Nat} {L : List (Option MV)} {st : List MV} {u : Mem} {Q : Option MV → Mem → Prop} (h : go d Y_W_wrongWith Q bk_W_wrongWith_2 2 L st u) : RunB (d + 1) Y_W_wrongWith 2 L st u Q := run_go ok_W_wrongWith (by decide) h
theorem rb_W_wrongWith_3 {d : Nat} {L : List (Option MV)} {st : List MV} {u : Mem} {Q : Option MV → Mem → Prop} (h : go d Y_W_wrongWith Q bk_W_wrongWith_3 3 L st u) : RunB (d + 1) Y_W_wrongWith 3 L st u Q := run_go ok_W_wrongWith (by decide) h
theorem rb_W_wrongWith_4 {d : Nat} {L : List (Option MV)} {st : List MV} {u : Mem} {Q : Option MV → Mem → Prop} (h : go d Y_W_wrongWith Q bk_W_wrongWith_4 4 L st u) : RunB (d + 1) Y_W_wrongWith 4 L st u Q := run_go ok_W_wrongWith (by decide) h
def bk_W_take_0 : List En := [(.aload_n 0, 1, 0, 0, [], g_0), (.getfield 11, 3, 7, 0, [290], g_0), (.iload_n 1, 1, 1, 0, [], g_0), (.aaload, 1, 0, 0, [], g_0), (.astore_n 2, 1, 2, 0, [], g_0), (.iload_n 1, 1, 1, 0, [], g_0), (.ifCond .ne 18, 3, 1, 0, [], g_0), (.aload_n 2, 1, 2, 0, [], g_0), (.aload_n 0, 1, 0, 0, [], g_0), (.getfield 18, 3, 7, 1, [291], g_0), (.aload_n 2, 1, 2, 0, [], g_0), (.invokevirtual 323, 3, 1, 2, [350, 351, 352, 68, 353], g_N_takeBills), (.putfield 100, 3, 6, 2, [258], g_0), (.goto 35, 3, 3, 0, [], g_0)]
def bk_W_take_1 : List En := [(.iload_n 1, 1, 1, 0, [], g_0), (.iconst 1, 1, 1, 0, [], g_0), (.if_icmp .ne 18, 3, 2, 0, [], g_0), (.aload_n 2, 1, 2, 0, [], g_0), (.aload_n 0, 1, 0, 0, [], g_0), (.getfield 18, 3, 7, 1, [291], g_0), (.aload_n 2, 1, 2, 0, [], g_0), (.invokevirtual 327, 3, 1, 2, [368, 369, 370, 68, 371], g_N_takeRains), (.putfield 100, 3, 6, 2, [258], g_0), (.goto 15, 3, 3, 0, [], g_0)]
def bk_W_take_2 : List En := [(.aload_n 2, 1, 2, 0, [], g_0), (.aload_n 0, 1, 0, 0, [], g_0), (.getfield 18, 3, 7, 1, [291], g_0), (.aload_n 2, 1, 2, 0, [], g_0), (.invokevirtual 330, 3, 1, 2, [373, 374, 375, 68, 376], g_N_takeLaw), (.putfield 100, 3, 6, 2, [258], g_0)]
def bk_W_take_3 : List En := [(.aload_n 0, 1, 0, 0, [], g_0), (.iconst 0, 1, 0, 0, [], g_0), (.putfield 67, 3, 7, 11, [301], g_0), (.return_, 1, 0, 0, [], g_0)]
def cd_W_take : Cd := [(0, bk_W_take_0), (26, bk_W_take_1), (46, bk_W_take_2), (58, bk_W_take_3), (64, [])]
def Y_W_take : Mth := (g_W_take, RW, cd_W_take)
set_option maxRecDepth 20000 in
theorem ok_W_take : okM Y_W_take = true := by decide +kernel
theorem en_W_take {d : Nat} {u : Mem} {Q : Option MV → Mem → Prop} (as : List MV) (hc : cats as ≤ 3) (h : RunB d Y_W_take 0 (argL as 3) [] u Q) : OKm d g_W_take as u Q := OKm.of (Y := Y_W_take) ok_W_take hc h
theorem rb_W_take_0 {d : Nat} {L : List (Option MV)} {st : List MV} {u : Mem} {Q : Option MV → Mem → Prop} (h : go d Y_W_take Q bk_W_take_0 0 L st u) : RunB (d + 1) Y_W_take 0 L st u Q := run_go ok_W_take (by decide) h
theorem rb_W_take_1 {d : Nat} {L : List (Option MV)} {st : List MV} {u : Mem} {Q : Option MV → Mem → Prop} (h : go d Y_W_take Q bk_W_take_1 1 L st u) : RunB (d + 1) Y_W_take 1 L st u Q := run_go ok_W_take (by decide) h
theorem rb_W_take_2 {d : Nat} {L : List (Option MV)} {st : List MV} {u : Mem} {Q : Option MV → Mem → Prop} (h : go d Y_W_take Q bk_W_take_2 2 L st u) : RunB (d + 1) Y_W_take 2 L st u Q := run_go ok_W_take (by decide) h
theorem rb_W_take_3 {d : Nat} {L : List (Option MV)} {st : List MV} {u : Mem} {Q : Option MV → Mem → Prop} (h : go d Y_W_take Q bk_W_take_3 3 L st u) : RunB (d + 1) Y_W_take 3 L st u Q := run_go ok_W_take (by decide) h
def bk_W_playTold_0 : List En := [(.aload_n 0, 1, 0, 0, [], g_0), (.getfield 67, 3, 7, 11, [301], g_0), (.ifCond .ne 24, 3, 1, 0, [], g_0), (.aload_n 0, 1, 0, 0, [], g_0), (.getfield 27, 3, 7, 2, [292], g_0), (.aload_n 0, 1, 0, 0, [], g_0), (.getfield 18, 3, 7, 1, [291], g_0), (.getfield 129, 3, 2, 1, [142], g_0), (.bipush 20, 2, 20, 0, [], g_0), (.invokevirtual 230, 3, 2, 5, [443, 444, 445, 71, 446], g_T_playDays), (.aload_n 0, 1, 0, 0, [], g_0), (.iconst 1, 1, 1, 0, [], g_0), (.putfield 67, 3, 7, 11, [301], g_0)]
def bk_W_playTold_1 : List En := [(.return_, 1, 0, 0, [], g_0)]
def cd_W_playTold : Cd := [(0, bk_W_playTold_0), (28, bk_W_playTold_1), (29, [])]
def Y_W_playTold : Mth := (g_W_playTold, RW, cd_W_playTold)
set_option maxRecDepth 20000 in
theorem ok_W_playTold : okM Y_W_playTold = true := by decide +kernel
theorem en_W_playTold {d : Nat} {u : Mem} {Q : Option MV → Mem → Prop} (as : List MV) (hc : cats as ≤ 1) (h : RunB d Y_W_playTold 0 (argL as 1) [] u Q) : OKm d g_W_playTold as u Q := OKm.of (Y := Y_W_playTold) ok_W_playTold hc h
theorem rb_W_playTold_0 {d : Nat} {L : List (Option MV)} {st : List MV} {u : Mem} {Q : Option MV → Mem → Prop} (h : go d Y_W_playTold Q bk_W_playTold_0 0 L st u) : RunB (d + 1) Y_W_playTold 0 L st u Q := run_go ok_W_playTold (by decide) h
theorem rb_W_playTold_1 {d : Nat} {L : List (Option MV)} {st : List MV} {u : Mem} {Q : Option MV → Mem → Prop} (h : go d Y_W_playTold Q bk_W_playTold_1 1 L st u) : RunB (d + 1) Y_W_playTold 1 L st u Q := run_go ok_W_playTold (by decide) h
def bk_W_playAhead_0 : List En := [(.aload_n 0, 1, 0, 0, [], g_0), (.getfield 31, 3, 7, 3, [293], g_0), (.aload_n 0, 1, 0, 0, [], g_0), (.getfield 18, 3, 7, 1, [291], g_0), (.getfield 129, 3, 2, 1, [142], g_0), (.iload_n 1, 1, 1, 0, [], g_0), (.invokevirtual 230, 3, 2, 5, [443, 444, 445, 71, 446], g_T_playDays), (.aload_n 0, 1, 0, 0, [], g_0), (.getfield 36, 3, 7, 4, [294], g_0), (.iconst 0, 1, 0, 0, [], g_0), (.aaload, 1, 0, 0, [], g_0), (.aload_n 0, 1, 0, 0, [], g_0), (.getfield 31, 3, 7, 3, [293], g_0), (.getfield 183, 3, 5, 1, [212], g_0), (.invokevirtual 187, 3, 1, 1, [533, 534, 535, 72, 536], g_P_become), (.return_, 1, 0, 0, [], g_0)]
def cd_W_playAhead : Cd := [(0, bk_W_playAhead_0), (32, [])]
def Y_W_playAhead : Mth := (g_W_playAhead, RW, cd_W_playAhead)
set_option maxRecDepth 20000 in
theorem ok_W_playAhead : okM Y_W_playAhead = true := by decide +kernel
theorem en_W_playAhead {d : Nat} {u : Mem} {Q : Option MV → Mem → Prop} (as : List MV) (hc : cats as ≤ 2) (h : RunB d Y_W_playAhead 0 (argL as 2) [] u Q) : OKm d g_W_playAhead as u Q := OKm.of (Y := Y_W_playAhead) ok_W_playAhead hc h
theorem rb_W_playAhead_0 {d : Nat} {L : List (Option MV)} {st : List MV} {u : Mem} {Q : Option MV → Mem → Prop} (h : go d Y_W_playAhead Q bk_W_playAhead_0 0 L st u) : RunB (d + 1) Y_W_playAhead 0 L st u Q := run_go ok_W_playAhead (by decide) h
def bk_W_findRip_0 : List En := [(.aload_n 0, 1, 0, 0, [], g_0), (.iload_n 1, 1, 1, 0, [], g_0), (.invokevirtual 180, 3, 1, 7, [529, 531, 9, 67, 532], g_W_playAhead), (.aload_n 0, 1, 0, 0, [], g_0), (.iload_n 1, 1, 1, 0, [], g_0), (.iconst (-1), 1, 1, 1, [], g_0), (.iconst (-1), 1, 1, 1, [], g_0), (.invokevirtual 333, 3, 3, 7, [540, 542, 10, 67, 543], g_W_obeysTorn), (.ifCond .eq 11, 3, 1, 0, [], g_0), (.aload_n 0, 1, 0, 0, [], g_0), (.iconst 0, 1, 0, 0, [], g_0), (.iconst (-1), 1, 1, 1, [], g_0), (.iconst (-1), 1, 1, 1, [], g_0), (.invokevirtual 337, 3, 3, 7, [545, 547, 11, 67, 548], g_W_setFound), (.return_, 1, 0, 0, [], g_0)]
def bk_W_findRip_1 : List En := [(.iconst 0, 1, 0, 0, [], g_0), (.istore_n 2, 1, 2, 0, [], g_0)]
def bk_W_findRip_2 : List En := [(.iload_n 2, 1, 2, 0, [], g_0), (.bipush 6, 2, 6, 0, [], g_0), (.if_icmp .ge 27, 3, 4, 0, [], g_0), (.aload_n 0, 1, 0, 0, [], g_0), (.iload_n 1, 1, 1, 0, [], g_0), (.iload_n 2, 1, 2, 0, [], g_0), (.iconst (-1), 1, 1, 1, [], g_0), (.invokevirtual 333, 3, 3, 7, [540, 542, 10, 67, 543], g_W_obeysTorn), (.ifCond .eq 11, 3, 3, 0, [], g_0), (.aload_n 0, 1, 0, 0, [], g_0), (.iconst 1, 1, 1, 0, [], g_0), (.iload_n 2, 1, 2, 0, [], g_0), (.iconst (-1), 1, 1, 1, [], g_0), (.invokevirtual 337, 3, 3, 7, [545, 547, 11, 67, 548], g_W_setFound), (.return_, 1, 0, 0, [], g_0)]
def bk_W_findRip_3 : List En := [(.iinc 2 1, 3, 2, 1, [0], g_0), (.goto (-27), 3, 2, 0, [], g_0)]
def bk_W_findRip_4 : List En := [(.iconst 0, 1, 0, 0, [], g_0), (.istore_n 2, 1, 2, 0, [], g_0)]
def bk_W_findRip_5 : List En := [(.iload_n 2, 1, 2, 0, [], g_0), (.bipush 6, 2, 6, 0, [], g_0), (.if_icmp .ge 41, 3, 9, 0, [], g_0), (.iload_n 2, 1, 2, 0, [], g_0), (.istore_n 3, 1, 3, 0, [], g_0)]
def bk_W_findRip_6 : List En := [(.iload_n 3, 1, 3, 0, [], g_0), (.bipush 6, 2, 6, 0, [], g_0), (.if_icmp .ge 27, 3, 8, 0, [], g_0), (.aload_n 0, 1, 0, 0, [], g_0), (.iload_n 1, 1, 1, 0, [], g_0), (.iload_n 2, 1, 2, 0, [], g_0), (.iload_n 3, 1, 3, 0, [], g_0), (.invokevirtual 333, 3, 3, 7, [540, 542, 10, 67, 543], g_W_obeysTorn), (.ifCond .eq 11, 3, 7, 0, [], g_0), (.aload_n 0, 1, 0, 0, [], g_0), (.iconst 2, 1, 2, 0, [], g_0), (.iload_n 2, 1, 2, 0, [], g_0), (.iload_n 3, 1, 3, 0, [], g_0), (.invokevirtual 337, 3, 3, 7, [545, 547, 11, 67, 548], g_W_setFound), (.return_, 1, 0, 0, [], g_0)]
def bk_W_findRip_7 : List En := [(.iinc 3 1, 3, 3, 1, [0], g_0), (.goto (-27), 3, 6, 0, [], g_0)]
def bk_W_findRip_8 : List En := [(.iinc 2 1, 3, 2, 1, [0], g_0), (.goto (-41), 3, 5, 0, [], g_0)]
def bk_W_findRip_9 : List En := [(.aload_n 0, 1, 0, 0, [], g_0), (.iconst (-1), 1, 1, 1, [], g_0), (.iconst (-1), 1, 1, 1, [], g_0), (.iconst (-1), 1, 1, 1, [], g_0), (.invokevirtual 337, 3, 3, 7, [545, 547, 11, 67, 548], g_W_setFound), (.return_, 1, 0, 0, [], g_0)]
def cd_W_findRip : Cd := [(0, bk_W_findRip_0), (23, bk_W_findRip_1), (25, bk_W_findRip_2), (49, bk_W_findRip_3), (55, bk_W_findRip_4), (57, bk_W_findRip_5), (65, bk_W_findRip_6), (89, bk_W_findRip_7), (95, bk_W_findRip_8), (101, bk_W_findRip_9), (109, [])]
def Y_W_findRip : Mth := (g_W_findRip, RW, cd_W_findRip)
set_option maxRecDepth 20000 in
theorem ok_W_findRip : okM Y_W_findRip = true := by decide +kernel
theorem en_W_findRip {d : Nat} {u : Mem} {Q : Option MV → Mem → Prop} (as : List MV) (hc : cats as ≤ 4) (h : RunB d Y_W_findRip 0 (argL as 4) [] u Q) : OKm d g_W_findRip as u Q := OKm.of (Y := Y_W_findRip) ok_W_findRip hc h
theorem rb_W_findRip_0 {d : Nat} {L : List (Option MV)} {st : List MV} {u : Mem} {Q : Option MV → Mem → Prop} (h : go d Y_W_findRip Q bk_W_findRip_0 0 L st u) : RunB (d + 1) Y_W_findRip 0 L st u Q := run_go ok_W_findRip (by decide) h
theorem rb_W_findRip_1 {d : Nat} {L : List (Option MV)} {st : List MV} {u : Mem} {Q : Option MV → Mem → Prop} (h : go d Y_W_findRip Q bk_W_findRip_1 1 L st u) : RunB (d + 1) Y_W_findRip 1 L st u Q := run_go ok_W_findRip (by decide) h
theorem rb_W_findRip_2 {d : Nat} {L : List (Option MV)} {st : List MV} {u : Mem} {Q : Option MV → Mem → Prop} (h : go d Y_W_findRip Q bk_W_findRip_2 2 L st u) : RunB (d + 1) Y_W_findRip 2 L st u Q := run_go ok_W_findRip (by decide) h
theorem rb_W_findRip_3 {d : Nat} {L : List (Option MV)} {st : List MV} {u : Mem} {Q : Option MV → Mem → Prop} (h : go d Y_W_findRip Q bk_W_findRip_3 3 L st u) : RunB (d + 1) Y_W_findRip 3 L st u Q := run_go ok_W_findRip (by decide) h
theorem rb_W_findRip_4 {d : Nat} {L : List (Option MV)} {st : List MV} {u : Mem} {Q : Option MV → Mem → Prop} (h : go d Y_W_findRip Q bk_W_findRip_4 4 L st u) : RunB (d + 1) Y_W_findRip 4 L st u Q := run_go ok_W_findRip (by decide) h
theorem rb_W_findRip_5 {d : Nat} {L : List (Option MV)} {st : List MV} {u : Mem} {Q : Option MV → Mem → Prop} (h : go d Y_W_findRip Q bk_W_findRip_5 5 L st u) : RunB (d + 1) Y_W_findRip 5 L st u Q := run_go ok_W_findRip (by decide) h
theorem rb_W_findRip_6 {d : Nat} {L : List (Option MV)} {st : List MV} {u : Mem} {Q : Option MV → Mem → Prop} (h : go d Y_W_findRip Q bk_W_findRip_6 6 L st u) : RunB (d + 1) Y_W_findRip 6 L st u Q := run_go ok_W_findRip (by decide) h
theorem rb_W_findRip_7 {d : Nat} {L : List (Option MV)} {st : List MV} {u : Mem} {Q : Option MV → Mem → Prop} (h : go d Y_W_findRip Q bk_W_findRip_7 7 L st u) : RunB (d + 1) Y_W_findRip 7 L st u Q := run_go ok_W_findRip (by decide) h
theorem rb_W_findRip_8 {d : Nat} {L : List (Option MV)} {st : List MV} {u : Mem} {Q : Option MV → Mem → Prop} (h : go d Y_W_findRip Q bk_W_findRip_8 8 L st u) : RunB (d + 1) Y_W_findRip 8 L st u Q := run_go ok_W_findRip (by decide) h
theorem rb_W_findRip_9 {d : Nat} {L : List (Option MV)} {st : List MV} {u : Mem} {Q : Option MV → Mem → Prop} (h : go d Y_W_findRip Q bk_W_findRip_9 9 L st u) : RunB (d + 1) Y_W_findRip 9 L st u Q := run_go ok_W_findRip (by decide) h
def bk_W_obeysTorn_0 : List En := [(.aload_n 0, 1, 0, 0, [], g_0), (.getfield 18, 3, 7, 1, [291], g_0), (.getfield 135, 3, 2, 8, [160], g_0), (.istore 4, 2, 4, 0, [], g_0), (.iload_n 2, 1, 2, 0, [], g_0), (.iconst (-1), 1, 1, 1, [], g_0), (.if_icmp .eq 12, 3, 1, 0, [], g_0), (.aload_n 0, 1, 0, 0, [], g_0), (.getfield 18, 3, 7, 1, [291], g_0), (.iload_n 1, 1, 1, 0, [], g_0), (.iload_n 2, 1, 2, 0, [], g_0), (.invokevirtual 138, 3, 2, 2, [413, 414, 415, 68, 416], g_N_addTear)]
def bk_W_obeysTorn_1 : List En := [(.iload_n 3, 1, 3, 0, [], g_0), (.iconst (-1), 1, 1, 1, [], g_0), (.if_icmp .eq 12, 3, 2, 0, [], g_0), (.aload_n 0, 1, 0, 0, [], g_0), (.getfield 18, 3, 7, 1, [291], g_0), (.iload_n 1, 1, 1, 0, [], g_0), (.iload_n 3, 1, 3, 0, [], g_0), (.invokevirtual 138, 3, 2, 2, [413, 414, 415, 68, 416], g_N_addTear)]
def bk_W_obeysTorn_2 : List En := [(.aload_n 0, 1, 0, 0, [], g_0), (.getfield 31, 3, 7, 3, [293], g_0), (.getfield 183, 3, 5, 1, [212], g_0), (.aload_n 0, 1, 0, 0, [], g_0), (.getfield 36, 3, 7, 4, [294], g_0), (.iconst 0, 1, 0, 0, [], g_0), (.aaload, 1, 0, 0, [], g_0), (.invokevirtual 187, 3, 1, 1, [533, 534, 535, 72, 536], g_P_become), (.aload_n 0, 1, 0, 0, [], g_0), (.getfield 31, 3, 7, 3, [293], g_0), (.iload_n 1, 1, 1, 0, [], g_0), (.aload_n 0, 1, 0, 0, [], g_0), (.getfield 18, 3, 7, 1, [291], g_0), (.getfield 129, 3, 2, 1, [142], g_0), (.iload_n 1, 1, 1, 0, [], g_0), (.iaload, 1, 0, 0, [], g_0), (.invokevirtual 191, 3, 2, 5, [544, 453, 454, 71, 455], g_T_play), (.aload_n 0, 1, 0, 0, [], g_0), (.getfield 18, 3, 7, 1, [291], g_0), (.iload 4, 2, 4, 0, [], g_0), (.putfield 135, 3, 2, 8, [160], g_0), (.aload_n 0, 1, 0, 0, [], g_0), (.getfield 31, 3, 7, 3, [293], g_0), (.iload_n 1, 1, 1, 0, [], g_0), (.invokevirtual 163, 3, 1, 5, [486, 487, 488, 71, 489], g_T_obeys), (.ireturn, 1, 0, 1, [], g_0)]
def cd_W_obeysTorn : Cd := [(0, bk_W_obeysTorn_0), (23, bk_W_obeysTorn_1), (37, bk_W_obeysTorn_2), (88, [])]
def Y_W_obeysTorn : Mth := (g_W_obeysTorn, RW, cd_W_obeysTorn)
set_option maxRecDepth 20000 in
theorem ok_W_obeysTorn : okM Y_W_obeysTorn = true := by decide +kernel
theorem en_W_obeysTorn {d : Nat} {u : Mem} {Q : Option MV → Mem → Prop} (as : List MV) (hc : cats as ≤ 5) (h : RunB d Y_W_obeysTorn 0 (argL as 5) [] u Q) : OKm d g_W_obeysTorn as u Q := OKm.of (Y := Y_W_obeysTorn) ok_W_obeysTorn hc h
theorem rb_W_obeysTorn_0 {d : Nat} {L : List (Option MV)} {st : List MV} {u : Mem} {Q : Option MV → Mem → Prop} (h : go d Y_W_obeysTorn Q bk_W_obeysTorn_0 0 L st u) : RunB (d + 1) Y_W_obeysTorn 0 L st u Q := run_go ok_W_obeysTorn (by decide) h
theorem rb_W_obeysTorn_1 {d : Nat} {L : List (Option MV)} {st : List MV} {u : Mem} {Q : Option MV → Mem → Prop} (h : go d Y_W_obeysTorn Q bk_W_obeysTorn_1 1 L st u) : RunB (d + 1) Y_W_obeysTorn 1 L st u Q := run_go ok_W_obeysTorn (by decide) h
theorem rb_W_obeysTorn_2 {d : Nat} {L : List (Option MV)} {st : List MV} {u : Mem} {Q : Option MV → Mem → Prop} (h : go d Y_W_obeysTorn Q bk_W_obeysTorn_2 2 L st u) : RunB (d + 1) Y_W_obeysTorn 2 L st u Q := run_go ok_W_obeysTorn (by decide) h
def bk_W_setFound_0 : List En := [(.aload_n 0, 1, 0, 0, [], g_0), (.getfield 60, 3, 7, 9, [299], g_0), (.iconst 0, 1, 0, 0, [], g_0), (.iload_n 1, 1, 1, 0, [], g_0), (.iastore, 1, 0, 0, [], g_0), (.aload_n 0, 1, 0, 0, [], g_0), (.getfield 60, 3, 7, 9, [299], g_0), (.iconst 1, 1, 1, 0, [], g_0), (.iload_n 2, 1, 2, 0, [], g_0), (.iastore, 1, 0, 0, [], g_0), (.aload_n 0, 1, 0, 0, [], g_0), (.getfield 60, 3, 7, 9, [299], g_0), (.iconst 2, 1, 2, 0, [], g_0), (.iload_n 3, 1, 3, 0, [], g_0), (.iastore, 1, 0, 0, [], g_0), (.return_, 1, 0, 0, [], g_0)]
def cd_W_setFound : Cd := [(0, bk_W_setFound_0), (22, [])]
def Y_W_setFound : Mth := (g_W_setFound, RW, cd_W_setFound)
set_option maxRecDepth 20000 in
theorem ok_W_setFound : okM Y_W_setFound = true := by decide +kernel
theorem en_W_setFound {d : Nat} {u : Mem} {Q : Option MV → Mem → Prop} (as : List MV) (hc : cats as ≤ 4) (h : RunB d Y_W_setFound 0 (argL as 4) [] u Q) : OKm d g_W_setFound as u Q := OKm.of (Y := Y_W_setFound) ok_W_setFound hc h
theorem rb_W_setFound_0 {d : Nat} {L : List (Option MV)} {st : List MV} {u : Mem} {Q : Option MV → Mem → Prop} (h : go d Y_W_setFound Q bk_W_setFound_0 0 L st u) : RunB (d + 1) Y_W_setFound 0 L st u Q := run_go ok_W_setFound (by decide) h
def bk_W_findPaste_0 : List En := [(.aload_n 1, 1, 1, 0, [], g_0), (.getfield 121, 3, 0, 4, [117], g_0), (.istore_n 2, 1, 2, 0, [], g_0), (.aload_n 0, 1, 0, 0, [], g_0), (.iconst (-1), 1, 1, 1, [], g_0), (.iconst (-1), 1, 1, 1, [], g_0), (.iconst (-1), 1, 1, 1, [], g_0), (.invokevirtual 337, 3, 3, 7, [545, 547, 11, 67, 548], g_W_setFound), (.iconst 1, 1, 1, 0, [], g_0), (.istore_n 3, 1, 3, 0, [], g_0)]
def bk_W_findPaste_1 : List En := [(.iload_n 3, 1, 3, 0, [], g_0), (.bipush 9, 2, 9, 0, [], g_0), (.if_icmp .gt 58, 3, 3, 0, [], g_0), (.aload_n 1, 1, 1, 0, [], g_0), (.iload_n 3, 1, 3, 0, [], g_0), (.putfield 121, 3, 0, 4, [117], g_0), (.aload_n 0, 1, 0, 0, [], g_0), (.getfield 31, 3, 7, 3, [293], g_0), (.aload_n 0, 1, 0, 0, [], g_0), (.getfield 18, 3, 7, 1, [291], g_0), (.getfield 129, 3, 2, 1, [142], g_0), (.bipush 20, 2, 20, 0, [], g_0), (.invokevirtual 230, 3, 2, 5, [443, 444, 445, 71, 446], g_T_playDays), (.aload_n 0, 1, 0, 0, [], g_0), (.getfield 31, 3, 7, 3, [293], g_0), (.invokevirtual 167, 3, 0, 5, [495, 496, 497, 71, 498], g_T_daysObeyed), (.istore 4, 2, 4, 0, [], g_0), (.iload 4, 2, 4, 0, [], g_0), (.aload_n 0, 1, 0, 0, [], g_0), (.getfield 60, 3, 7, 9, [299], g_0), (.iconst 1, 1, 1, 0, [], g_0), (.iaload, 1, 0, 0, [], g_0), (.if_icmp .le 11, 3, 2, 0, [], g_0), (.aload_n 0, 1, 0, 0, [], g_0), (.iload_n 3, 1, 3, 0, [], g_0), (.iload 4, 2, 4, 0, [], g_0), (.iconst (-1), 1, 1, 1, [], g_0), (.invokevirtual 337, 3, 3, 7, [545, 547, 11, 67, 548], g_W_setFound)]
def bk_W_findPaste_2 : List En := [(.iinc 3 1, 3, 3, 1, [0], g_0), (.goto (-58), 3, 1, 0, [], g_0)]
def bk_W_findPaste_3 : List En := [(.aload_n 1, 1, 1, 0, [], g_0), (.iload_n 2, 1, 2, 0, [], g_0), (.putfield 121, 3, 0, 4, [117], g_0), (.return_, 1, 0, 0, [], g_0)]
def cd_W_findPaste : Cd := [(0, bk_W_findPaste_0), (14, bk_W_findPaste_1), (69, bk_W_findPaste_2), (75, bk_W_findPaste_3), (81, [])]
def Y_W_findPaste : Mth := (g_W_findPaste, RW, cd_W_findPaste)
set_option maxRecDepth 20000 in
theorem ok_W_findPaste : okM Y_W_findPaste = true := by decide +kernel
theorem en_W_findPaste {d : Nat} {u : Mem} {Q : Option MV → Mem → Prop} (as : List MV) (hc : cats as ≤ 5) (h : RunB d Y_W_findPaste 0 (argL as 5) [] u Q) : OKm d g_W_findPaste as u Q := OKm.of (Y := Y_W_findPaste) ok_W_findPaste hc h
theorem rb_W_findPaste_0 {d : Nat} {L : List (Option MV)} {st : List MV} {u : Mem} {Q : Option MV → Mem → Prop} (h : go d Y_W_findPaste Q bk_W_findPaste_0 0 L st u) : RunB (d + 1) Y_W_findPaste 0 L st u Q := run_go ok_W_findPaste (by decide) h
theorem rb_W_findPaste_1 {d : Nat} {L : List (Option MV)} {st : List MV} {u : Mem} {Q : Option MV → Mem → Prop} (h : go d Y_W_findPaste Q bk_W_findPaste_1 1 L st u) : RunB (d + 1) Y_W_findPaste 1 L st u Q := run_go ok_W_findPaste (by decide) h
theorem rb_W_findPaste_2 {d : Nat} {L : List (Option MV)} {st : List MV} {u : Mem} {Q : Option MV → Mem → Prop} (h : go d Y_W_findPaste Q bk_W_findPaste_2 2 L st u) : RunB (d + 1) Y_W_findPaste 2 L st u Q := run_go ok_W_findPaste (by decide) h
theorem rb_W_findPaste_3 {d : Nat} {L : List (Option MV)} {st : List MV} {u : Mem} {Q : Option MV → Mem → Prop} (h : go d Y_W_findPaste Q bk_W_findPaste_3 3 L st u) : RunB (d + 1) Y_W_findPaste 3 L st u Q := run_go ok_W_findPaste (by decide) h
def bk_W_findStick_0 : List En := [(.aload_n 1, 1, 1, 0, [], g_0), (.getfield 110, 3, 0, 1, [107], g_0), (.istore_n 2, 1, 2, 0, [], g_0), (.aload_n 1, 1, 1, 0, [], g_0), (.getfield 115, 3, 0, 2, [110], g_0), (.istore_n 3, 1, 3, 0, [], g_0), (.bipush 20, 2, 20, 0, [], g_0), (.istore 4, 2, 4, 0, [], g_0), (.aload_n 0, 1, 0, 0, [], g_0), (.iconst (-1), 1, 1, 1, [], g_0), (.iconst (-1), 1, 1, 1, [], g_0), (.iconst (-1), 1, 1, 1, [], g_0), (.invokevirtual 337, 3, 3, 7, [545, 547, 11, 67, 548], g_W_setFound), (.iconst 0, 1, 0, 0, [], g_0), (.istore 5, 2, 5, 0, [], g_0)]
def bk_W_findStick_1 : List En := [(.iload 5, 2, 5, 0, [], g_0), (.bipush 20, 2, 20, 0, [], g_0), (.if_icmp .ge 75, 3, 5, 0, [], g_0), (.iconst 0, 1, 0, 0, [], g_0), (.istore 6, 2, 6, 0, [], g_0)]
def bk_W_findStick_2 : List En := [(.iload 6, 2, 6, 0, [], g_0), (.bipush 6, 2, 6, 0, [], g_0), (.if_icmp .ge 59, 3, 4, 0, [], g_0), (.aload_n 1, 1, 1, 0, [], g_0), (.iload 5, 2, 5, 0, [], g_0), (.putfield 110, 3, 0, 1, [107], g_0), (.aload_n 1, 1, 1, 0, [], g_0), (.iload 6, 2, 6, 0, [], g_0), (.putfield 115, 3, 0, 2, [110], g_0), (.aload_n 0, 1, 0, 0, [], g_0), (.getfield 31, 3, 7, 3, [293], g_0), (.aload_n 0, 1, 0, 0, [], g_0), (.getfield 18, 3, 7, 1, [291], g_0), (.getfield 129, 3, 2, 1, [142], g_0), (.iload 4, 2, 4, 0, [], g_0), (.invokevirtual 340, 3, 2, 5, [569, 570, 571, 71, 572], g_T_firstObeyed), (.istore 7, 2, 7, 0, [], g_0), (.iload 7, 2, 7, 0, [], g_0), (.iconst (-1), 1, 1, 1, [], g_0), (.if_icmp .eq 17, 3, 3, 0, [], g_0), (.iload 7, 2, 7, 0, [], g_0), (.istore 4, 2, 4, 0, [], g_0), (.aload_n 0, 1, 0, 0, [], g_0), (.iload 5, 2, 5, 0, [], g_0), (.iload 6, 2, 6, 0, [], g_0), (.iload 7, 2, 7, 0, [], g_0), (.invokevirtual 337, 3, 3, 7, [545, 547, 11, 67, 548], g_W_setFound)]
def bk_W_findStick_3 : List En := [(.iinc 6 1, 3, 6, 1, [0], g_0), (.goto (-60), 3, 2, 0, [], g_0)]
def bk_W_findStick_4 : List En := [(.iinc 5 1, 3, 5, 1, [0], g_0), (.goto (-76), 3, 1, 0, [], g_0)]
def bk_W_findStick_5 : List En := [(.aload_n 1, 1, 1, 0, [], g_0), (.iload_n 2, 1, 2, 0, [], g_0), (.putfield 110, 3, 0, 1, [107], g_0), (.aload_n 1, 1, 1, 0, [], g_0), (.iload_n 3, 1, 3, 0, [], g_0), (.putfield 115, 3, 0, 2, [110], g_0), (.return_, 1, 0, 0, [], g_0)]
def cd_W_findStick : Cd := [(0, bk_W_findStick_0), (24, bk_W_findStick_1), (34, bk_W_findStick_2), (91, bk_W_findStick_3), (97, bk_W_findStick_4), (103, bk_W_findStick_5), (114, [])]
def Y_W_findStick : Mth := (g_W_findStick, RW, cd_W_findStick)
set_option maxRecDepth 20000 in
theorem ok_W_findStick : okM Y_W_findStick = true := by decide +kernel
theorem en_W_findStick {d : Nat} {u : Mem} {Q : Option MV → Mem → Prop} (as : List MV) (hc : cats as ≤ 8) (h : RunB d Y_W_findStick 0 (argL as 8) [] u Q) : OKm d g_W_findStick as u Q := OKm.of (Y := Y_W_findStick) ok_W_findStick hc h
theorem rb_W_findStick_0 {d : Nat} {L : List (Option MV)} {st : List MV} {u : Mem} {Q : Option MV → Mem → Prop} (h : go d Y_W_findStick Q bk_W_findStick_0 0 L st u) : RunB (d + 1) Y_W_findStick 0 L st u Q := run_go ok_W_findStick (by decide) h
theorem rb_W_findStick_1 {d : Nat} {L : List (Option MV)} {st : List MV} {u : Mem} {Q : Option MV → Mem → Prop} (h : go d Y_W_findStick Q bk_W_findStick_1 1 L st u) : RunB (d + 1) Y_W_findStick 1 L st u Q := run_go ok_W_findStick (by decide) h
theorem rb_W_findStick_2 {d : Nat} {L : List (Option MV)} {st : List MV} {u : Mem} {Q : Option MV → Mem → Prop} (h : go d Y_W_findStick Q bk_W_findStick_2 2 L st u) : RunB (d + 1) Y_W_findStick 2 L st u Q := run_go ok_W_findStick (by decide) h
theorem rb_W_findStick_3 {d : Nat} {L : List (Option MV)} {st : List MV} {u : Mem} {Q : Option MV → Mem → Prop} (h : go d Y_W_findStick Q bk_W_findStick_3 3 L st u) : RunB (d + 1) Y_W_findStick 3 L st u Q := run_go ok_W_findStick (by decide) h
theorem rb_W_findStick_4 {d : Nat} {L : List (Option MV)} {st : List MV} {u : Mem} {Q : Option MV → Mem → Prop} (h : go d Y_W_findStick Q bk_W_findStick_4 4 L st u) : RunB (d + 1) Y_W_findStick 4 L st u Q := run_go ok_W_findStick (by decide) h
theorem rb_W_findStick_5 {d : Nat} {L : List (Option MV)} {st : List MV} {u : Mem} {Q : Option MV → Mem → Prop} (h : go d Y_W_findStick Q bk_W_findStick_5 5 L st u) : RunB (d + 1) Y_W_findStick 5 L st u Q := run_go ok_W_findStick (by decide) h
def bk_W_comesOutAsSeen_0 : List En := [(.aload_n 0, 1, 0, 0, [], g_0), (.getfield 31, 3, 7, 3, [293], g_0), (.aload_n 0, 1, 0, 0, [], g_0), (.getfield 18, 3, 7, 1, [291], g_0), (.getfield 129, 3, 2, 1, [142], g_0), (.bipush 20, 2, 20, 0, [], g_0), (.invokevirtual 230, 3, 2, 5, [443, 444, 445, 71, 446], g_T_playDays), (.aload_n 0, 1, 0, 0, [], g_0), (.getfield 43, 3, 7, 5, [295], g_0), (.aload_n 0, 1, 0, 0, [], g_0), (.getfield 31, 3, 7, 3, [293], g_0), (.invokevirtual 344, 3, 1, 4, [593, 594, 595, 73, 596], g_S_fit), (.ireturn, 1, 0, 1, [], g_0)]
def cd_W_comesOutAsSeen : Cd := [(0, bk_W_comesOutAsSeen_0), (28, [])]
def Y_W_comesOutAsSeen : Mth := (g_W_comesOutAsSeen, RW, cd_W_comesOutAsSeen)
set_option maxRecDepth 20000 in
theorem ok_W_comesOutAsSeen : okM Y_W_comesOutAsSeen = true := by decide +kernel
theorem en_W_comesOutAsSeen {d : Nat} {u : Mem} {Q : Option MV → Mem → Prop} (as : List MV) (hc : cats as ≤ 1) (h : RunB d Y_W_comesOutAsSeen 0 (argL as 1) [] u Q) : OKm d g_W_comesOutAsSeen as u Q := OKm.of (Y := Y_W_comesOutAsSeen) ok_W_comesOutAsSeen hc h
theorem rb_W_comesOutAsSeen_0 {d : Nat} {L : List (Option MV)} {st : List MV} {u : Mem} {Q : Option MV → Mem → Prop} (h : go d Y_W_comesOutAsSeen Q bk_W_comesOutAsSeen_0 0 L st u) : RunB (d + 1) Y_W_comesOutAsSeen 0 L st u Q := run_go ok_W_comesOutAsSeen (by decide) h
def bk_W_thicks_0 : List En := [(.aload_n 1, 1, 1, 0, [], g_0), (.getfield 121, 3, 0, 4, [117], g_0), (.istore_n 2, 1, 2, 0, [], g_0), (.iconst 0, 1, 0, 0, [], g_0), (.istore_n 3, 1, 3, 0, [], g_0), (.iconst 1, 1, 1, 0, [], g_0), (.istore 4, 2, 4, 0, [], g_0)]
def bk_W_thicks_1 : List En := [(.iload 4, 2, 4, 0, [], g_0), (.bipush 9, 2, 9, 0, [], g_0), (.if_icmp .gt 29, 3, 3, 0, [], g_0), (.aload_n 1, 1, 1, 0, [], g_0), (.iload 4, 2, 4, 0, [], g_0), (.putfield 121, 3, 0, 4, [117], g_0), (.aload_n 0, 1, 0, 0, [], g_0), (.invokevirtual 211, 3, 0, 7, [589, 591, 14, 67, 592], g_W_comesOutAsSeen), (.ifCond .eq 10, 3, 2, 0, [], g_0), (.iload_n 3, 1, 3, 0, [], g_0), (.iconst 1, 1, 1, 0, [], g_0), (.iload 4, 2, 4, 0, [], g_0), (.ishl, 1, 0, 0, [], g_0), (.ior, 1, 0, 0, [], g_0), (.istore_n 3, 1, 3, 0, [], g_0)]
def bk_W_thicks_2 : List En := [(.iinc 4 1, 3, 4, 1, [0], g_0), (.goto (-30), 3, 1, 0, [], g_0)]
def bk_W_thicks_3 : List En := [(.aload_n 1, 1, 1, 0, [], g_0), (.iload_n 2, 1, 2, 0, [], g_0), (.putfield 121, 3, 0, 4, [117], g_0), (.iload_n 3, 1, 3, 0, [], g_0), (.ireturn, 1, 0, 0, [], g_0)]
def cd_W_thicks : Cd := [(0, bk_W_thicks_0), (10, bk_W_thicks_1), (37, bk_W_thicks_2), (43, bk_W_thicks_3), (50, [])]
def Y_W_thicks : Mth := (g_W_thicks, RW, cd_W_thicks)
set_option maxRecDepth 20000 in
theorem ok_W_thicks : okM Y_W_thicks = true := by decide +kernel
theorem en_W_thicks {d : Nat} {u : Mem} {Q : Option MV → Mem → Prop} (as : List MV) (hc : cats as ≤ 5) (h : RunB d Y_W_thicks 0 (argL as 5) [] u Q) : OKm d g_W_thicks as u Q := OKm.of (Y := Y_W_thicks) ok_W_thicks hc h
theorem rb_W_thicks_0 {d : Nat} {L : List (Option MV)} {st : List MV} {u : Mem} {Q : Option MV → Mem → Prop} (h : go d Y_W_thicks Q bk_W_thicks_0 0 L st u) : RunB (d + 1) Y_W_thicks 0 L st u Q := run_go ok_W_thicks (by decide) h
theorem rb_W_thicks_1 {d : Nat} {L : List (Option MV)} {st : List MV} {u : Mem} {Q : Option MV → Mem → Prop} (h : go d Y_W_thicks Q bk_W_thicks_1 1 L st u) : RunB (d + 1) Y_W_thicks 1 L st u Q := run_go ok_W_thicks (by decide) h
theorem rb_W_thicks_2 {d : Nat} {L : List (Option MV)} {st : List MV} {u : Mem} {Q : Option MV → Mem → Prop} (h : go d Y_W_thicks Q bk_W_thicks_2 2 L st u) : RunB (d + 1) Y_W_thicks 2 L st u Q := run_go ok_W_thicks (by decide) h
theorem rb_W_thicks_3 {d : Nat} {L : List (Option MV)} {st : List MV} {u : Mem} {Q : Option MV → Mem → Prop} (h : go d Y_W_thicks Q bk_W_thicks_3 3 L st u) : RunB (d + 1) Y_W_thicks 3 L st u Q := run_go ok_W_thicks (by decide) h
def bk_W_years_0 : List En := [(.aload_n 1, 1, 1, 0, [], g_0), (.getfield 110, 3, 0, 1, [107], g_0), (.istore_n 2, 1, 2, 0, [], g_0), (.iconst 0, 1, 0, 0, [], g_0), (.istore_n 3, 1, 3, 0, [], g_0), (.aload_n 0, 1, 0, 0, [], g_0), (.getfield 57, 3, 7, 8, [298], g_0), (.iconst 0, 1, 0, 0, [], g_0), (.invokestatic 348, 3, 2, 1, [610, 136, 0, 70, 137], g_J_fill), (.iconst 0, 1, 0, 0, [], g_0), (.istore 4, 2, 4, 0, [], g_0)]
def bk_W_years_1 : List En := [(.iload 4, 2, 4, 0, [], g_0), (.bipush 20, 2, 20, 0, [], g_0), (.if_icmp .ge 33, 3, 3, 0, [], g_0), (.aload_n 1, 1, 1, 0, [], g_0), (.iload 4, 2, 4, 0, [], g_0), (.putfield 110, 3, 0, 1, [107], g_0), (.aload_n 0, 1, 0, 0, [], g_0), (.invokevirtual 211, 3, 0, 7, [589, 591, 14, 67, 592], g_W_comesOutAsSeen), (.ifCond .eq 14, 3, 2, 0, [], g_0), (.iload_n 3, 1, 3, 0, [], g_0), (.iconst 1, 1, 1, 0, [], g_0), (.iload 4, 2, 4, 0, [], g_0), (.ishl, 1, 0, 0, [], g_0), (.ior, 1, 0, 0, [], g_0), (.istore_n 3, 1, 3, 0, [], g_0), (.aload_n 0, 1, 0, 0, [], g_0), (.invokevirtual 353, 3, 0, 7, [611, 613, 17, 67, 614], g_W_tallyLastDay)]
def bk_W_years_2 : List En := [(.iinc 4 1, 3, 4, 1, [0], g_0), (.goto (-34), 3, 1, 0, [], g_0)]
def bk_W_years_3 : List En := [(.aload_n 1, 1, 1, 0, [], g_0), (.iload_n 2, 1, 2, 0, [], g_0), (.putfield 110, 3, 0, 1, [107], g_0), (.iload_n 3, 1, 3, 0, [], g_0), (.ireturn, 1, 0, 0, [], g_0)]
def cd_W_years : Cd := [(0, bk_W_years_0), (18, bk_W_years_1), (49, bk_W_years_2), (55, bk_W_years_3), (62, [])]
def Y_W_years : Mth := (g_W_years, RW, cd_W_years)
set_option maxRecDepth 20000 in
theorem ok_W_years : okM Y_W_years = true := by decide +kernel
theorem en_W_years {d : Nat} {u : Mem} {Q : Option MV → Mem → Prop} (as : List MV) (hc : cats as ≤ 5) (h : RunB d Y_W_years 0 (argL as 5) [] u Q) : OKm d g_W_years as u Q := OKm.of (Y := Y_W_years) ok_W_years hc h
theorem rb_W_years_0 {d : Nat} {L : List (Option MV)} {st : List MV} {u : Mem} {Q : Option MV → Mem → Prop} (h : go d Y_W_years Q bk_W_years_0 0 L st u) : RunB (d + 1) Y_W_years 0 L st u Q := run_go ok_W_years (by decide) h
theorem rb_W_years_1 {d : Nat} {L : List (Option MV)} {st : List MV} {u : Mem} {Q : Option MV → Mem → Prop} (h : go d Y_W_years Q bk_W_years_1 1 L st u) : RunB (d + 1) Y_W_years 1 L st u Q := run_go ok_W_years (by decide) h
theorem rb_W_years_2 {d : Nat} {L : List (Option MV)} {st : List MV} {u : Mem} {Q : Option MV → Mem → Prop} (h : go d Y_W_years Q bk_W_years_2 2 L st u) : RunB (d + 1) Y_W_years 2 L st u Q := run_go ok_W_years (by decide) h
theorem rb_W_years_3 {d : Nat} {L : List (Option MV)} {st : List MV} {u : Mem} {Q : Option MV → Mem → Prop} (h : go d Y_W_years Q bk_W_years_3 3 L st u) : RunB (d + 1) Y_W_years 3 L st u Q := run_go ok_W_years (by decide) h
def bk_W_tallyLastDay_0 : List En := [(.iconst 0, 1, 0, 0, [], g_0), (.istore_n 1, 1, 1, 0, [], g_0)]
def bk_W_tallyLastDay_1 : List En := [(.iload_n 1, 1, 1, 0, [], g_0), (.bipush 6, 2, 6, 0, [], g_0), (.if_icmp .ge 52, 3, 4, 0, [], g_0), (.aload_n 0, 1, 0, 0, [], g_0), (.getfield 31, 3, 7, 3, [293], g_0), (.bipush 19, 2, 19, 0, [], g_0), (.iload_n 1, 1, 1, 0, [], g_0), (.iconst 0, 1, 0, 0, [], g_0), (.invokevirtual 159, 3, 3, 5, [477, 478, 479, 71, 480], g_T_fact), (.istore_n 2, 1, 2, 0, [], g_0), (.iload_n 2, 1, 2, 0, [], g_0), (.bipush 8, 2, 8, 0, [], g_0), (.invokestatic 80, 3, 2, 1, [334, 335, 0, 67, 336], g_W_isBelow), (.ifCond .eq 7, 3, 2, 0, [], g_0), (.iload_n 2, 1, 2, 0, [], g_0), (.goto 5, 3, 3, 0, [], g_0)]
def bk_W_tallyLastDay_2 : List En := [(.bipush 8, 2, 8, 0, [], g_0)]
def bk_W_tallyLastDay_3 : List En := [(.istore_n 3, 1, 3, 0, [], g_0), (.aload_n 0, 1, 0, 0, [], g_0), (.getfield 57, 3, 7, 8, [298], g_0), (.iload_n 1, 1, 1, 0, [], g_0), (.bipush 9, 2, 9, 0, [], g_0), (.imul, 1, 0, 0, [], g_0), (.iload_n 3, 1, 3, 0, [], g_0), (.iadd, 1, 0, 0, [], g_0), (.dup2, 1, 0, 0, [], g_0), (.iaload, 1, 0, 0, [], g_0), (.iconst 1, 1, 1, 0, [], g_0), (.iadd, 1, 0, 0, [], g_0), (.iastore, 1, 0, 0, [], g_0), (.iinc 1 1, 3, 1, 1, [0], g_0), (.goto (-52), 3, 1, 0, [], g_0)]
def bk_W_tallyLastDay_4 : List En := [(.return_, 1, 0, 0, [], g_0)]
def cd_W_tallyLastDay : Cd := [(0, bk_W_tallyLastDay_0), (2, bk_W_tallyLastDay_1), (33, bk_W_tallyLastDay_2), (35, bk_W_tallyLastDay_3), (57, bk_W_tallyLastDay_4), (58, [])]
def Y_W_tallyLastDay : Mth := (g_W_tallyLastDay, RW, cd_W_tallyLastDay)
set_option maxRecDepth 20000 in
theorem ok_W_tallyLastDay : okM Y_W_tallyLastDay = true := by decide +kernel
theorem en_W_tallyLastDay {d : Nat} {u : Mem} {Q : Option MV → Mem → Prop} (as : List MV) (hc : cats as ≤ 4) (h : RunB d Y_W_tallyLastDay 0 (argL as 4) [] u Q) : OKm d g_W_tallyLastDay as u Q := OKm.of (Y := Y_W_tallyLastDay) ok_W_tallyLastDay hc h
theorem rb_W_tallyLastDay_0 {d : Nat} {L : List (Option MV)} {st : List MV} {u : Mem} {Q : Option MV → Mem → Prop} (h : go d Y_W_tallyLastDay Q bk_W_tallyLastDay_0 0 L st u) : RunB (d + 1) Y_W_tallyLastDay 0 L st u Q := run_go ok_W_tallyLastDay (by decide) h
theorem rb_W_tallyLastDay_1 {d : Nat} {L : List (Option MV)} {st : List MV} {u : Mem} {Q : Option MV → Mem → Prop} (h : go d Y_W_tallyLastDay Q bk_W_tallyLastDay_1 1 L st u) : RunB (d + 1) Y_W_tallyLastDay 1 L st u Q := run_go ok_W_tallyLastDay (by decide) h
theorem rb_W_tallyLastDay_2 {d : Nat} {L : List (Option MV)} {st : List MV} {u : Mem} {Q : Option MV → Mem → Prop} (h : go d Y_W_tallyLastDay Q bk_W_tallyLastDay_2 2 L st u) : RunB (d + 1) Y_W_tallyLastDay 2 L st u Q := run_go ok_W_tallyLastDay (by decide) h
theorem rb_W_tallyLastDay_3 {d : Nat} {L : List (Option MV)} {st : List MV} {u : Mem} {Q : Option MV → Mem → Prop} (h : go d Y_W_tallyLastDay Q bk_W_tallyLastDay_3 3 L st u) : RunB (d + 1) Y_W_tallyLastDay 3 L st u Q := run_go ok_W_tallyLastDay (by decide) h
theorem rb_W_tallyLastDay_4 {d : Nat} {L : List (Option MV)} {st : List MV} {u : Mem} {Q : Option MV → Mem → Prop} (h : go d Y_W_tallyLastDay Q bk_W_tallyLastDay_4 4 L st u) : RunB (d + 1) Y_W_tallyLastDay 4 L st u Q := run_go ok_W_tallyLastDay (by decide) h
def bk_W_columnToAsk_0 : List En := [(.iconst 0, 1, 0, 0, [], g_0), (.istore_n 1, 1, 1, 0, [], g_0), (.bipush 21, 2, 21, 0, [], g_0), (.istore_n 2, 1, 2, 0, [], g_0), (.iconst 0, 1, 0, 0, [], g_0), (.istore_n 3, 1, 3, 0, [], g_0)]
def bk_W_columnToAsk_1 : List En := [(.iload_n 3, 1, 3, 0, [], g_0), (.bipush 6, 2, 6, 0, [], g_0), (.if_icmp .ge 27, 3, 3, 0, [], g_0), (.aload_n 0, 1, 0, 0, [], g_0), (.iload_n 3, 1, 3, 0, [], g_0), (.invokevirtual 356, 3, 1, 7, [623, 625, 19, 67, 626], g_W_greatestLike), (.istore 4, 2, 4, 0, [], g_0), (.iload 4, 2, 4, 0, [], g_0), (.iload_n 2, 1, 2, 0, [], g_0), (.if_icmp .ge 8, 3, 2, 0, [], g_0), (.iload 4, 2, 4, 0, [], g_0), (.istore_n 2, 1, 2, 0, [], g_0), (.iload_n 3, 1, 3, 0, [], g_0), (.istore_n 1, 1, 1, 0, [], g_0)]
def bk_W_columnToAsk_2 : List En := [(.iinc 3 1, 3, 3, 1, [0], g_0), (.goto (-27), 3, 1, 0, [], g_0)]
def bk_W_columnToAsk_3 : List En := [(.iload_n 1, 1, 1, 0, [], g_0), (.ireturn, 1, 0, 0, [], g_0)]
def cd_W_columnToAsk : Cd := [(0, bk_W_columnToAsk_0), (7, bk_W_columnToAsk_1), (31, bk_W_columnToAsk_2), (37, bk_W_columnToAsk_3), (39, [])]
def Y_W_columnToAsk : Mth := (g_W_columnToAsk, RW, cd_W_columnToAsk)
set_option maxRecDepth 20000 in
theorem ok_W_columnToAsk : okM Y_W_columnToAsk = true := by decide +kernel
theorem en_W_columnToAsk {d : Nat} {u : Mem} {Q : Option MV → Mem → Prop} (as : List MV) (hc : cats as ≤ 5) (h : RunB d Y_W_columnToAsk 0 (argL as 5) [] u Q) : OKm d g_W_columnToAsk as u Q := OKm.of (Y := Y_W_columnToAsk) ok_W_columnToAsk hc h
theorem rb_W_columnToAsk_0 {d : Nat} {L : List (Option MV)} {st : List MV} {u : Mem} {Q : Option MV → Mem → Prop} (h : go d Y_W_columnToAsk Q bk_W_columnToAsk_0 0 L st u) : RunB (d + 1) Y_W_columnToAsk 0 L st u Q := run_go ok_W_columnToAsk (by decide) h
theorem rb_W_columnToAsk_1 {d : Nat} {L : List (Option MV)} {st : List MV} {u : Mem} {Q : Option MV → Mem → Prop} (h : go d Y_W_columnToAsk Q bk_W_columnToAsk_1 1 L st u) : RunB (d + 1) Y_W_columnToAsk 1 L st u Q := run_go ok_W_columnToAsk (by decide) h
theorem rb_W_columnToAsk_2 {d : Nat} {L : List (Option MV)} {st : List MV} {u : Mem} {Q : Option MV → Mem → Prop} (h : go d Y_W_columnToAsk Q bk_W_columnToAsk_2 2 L st u) : RunB (d + 1) Y_W_columnToAsk 2 L st u Q := run_go ok_W_columnToAsk (by decide) h
theorem rb_W_columnToAsk_3 {d : Nat} {L : List (Option MV)} {st : List MV} {u : Mem} {Q : Option MV → Mem → Prop} (h : go d Y_W_columnToAsk Q bk_W_columnToAsk_3 3 L st u) : RunB (d + 1) Y_W_columnToAsk 3 L st u Q := run_go ok_W_columnToAsk (by decide) h
def bk_W_greatestLike_0 : List En := [(.iconst 0, 1, 0, 0, [], g_0), (.istore_n 2, 1, 2, 0, [], g_0), (.iconst 0, 1, 0, 0, [], g_0), (.istore_n 3, 1, 3, 0, [], g_0)]
def bk_W_greatestLike_1 : List En := [(.iload_n 3, 1, 3, 0, [], g_0), (.bipush 8, 2, 8, 0, [], g_0), (.if_icmp .gt 25, 3, 2, 0, [], g_0), (.iload_n 2, 1, 2, 0, [], g_0), (.aload_n 0, 1, 0, 0, [], g_0), (.getfield 57, 3, 7, 8, [298], g_0), (.iload_n 1, 1, 1, 0, [], g_0), (.bipush 9, 2, 9, 0, [], g_0), (.imul, 1, 0, 0, [], g_0), (.iload_n 3, 1, 3, 0, [], g_0), (.iadd, 1, 0, 0, [], g_0), (.iaload, 1, 0, 0, [], g_0), (.invokestatic 359, 3, 0, 4, [627, 251, 0, 75, 252], g_0), (.istore_n 2, 1, 2, 0, [], g_0), (.iinc 3 1, 3, 3, 1, [0], g_0), (.goto (-25), 3, 1, 0, [], g_0)]
def bk_W_greatestLike_2 : List En := [(.iload_n 2, 1, 2, 0, [], g_0), (.ireturn, 1, 0, 0, [], g_0)]
def cd_W_greatestLike : Cd := [(0, bk_W_greatestLike_0), (4, bk_W_greatestLike_1), (32, bk_W_greatestLike_2), (34, [])]
def Y_W_greatestLike : Mth := (g_W_greatestLike, RW, cd_W_greatestLike)
set_option maxRecDepth 20000 in
theorem ok_W_greatestLike : okM Y_W_greatestLike = true := by decide +kernel
theorem en_W_greatestLike {d : Nat} {u : Mem} {Q : Option MV → Mem → Prop} (as : List MV) (hc : cats as ≤ 4) (h : RunB d Y_W_greatestLike 0 (argL as 4) [] u Q) : OKm d g_W_greatestLike as u Q := OKm.of (Y := Y_W_greatestLike) ok_W_greatestLike hc h
theorem rb_W_greatestLike_0 {d : Nat} {L : List (Option MV)} {st : List MV} {u : Mem} {Q : Option MV → Mem → Prop} (h : go d Y_W_greatestLike Q bk_W_greatestLike_0 0 L st u) : RunB (d + 1) Y_W_greatestLike 0 L st u Q := run_go ok_W_greatestLike (by decide) h
theorem rb_W_greatestLike_1 {d : Nat} {L : List (Option MV)} {st : List MV} {u : Mem} {Q : Option MV → Mem → Prop} (h : go d Y_W_greatestLike Q bk_W_greatestLike_1 1 L st u) : RunB (d + 1) Y_W_greatestLike 1 L st u Q := run_go ok_W_greatestLike (by decide) h
theorem rb_W_greatestLike_2 {d : Nat} {L : List (Option MV)} {st : List MV} {u : Mem} {Q : Option MV → Mem → Prop} (h : go d Y_W_greatestLike Q bk_W_greatestLike_2 2 L st u) : RunB (d + 1) Y_W_greatestLike 2 L st u Q := run_go ok_W_greatestLike (by decide) h
def bk_W_findShower_0 : List En := [(.aload_n 0, 1, 0, 0, [], g_0), (.getfield 31, 3, 7, 3, [293], g_0), (.getfield 183, 3, 5, 1, [212], g_0), (.invokevirtual 362, 3, 0, 1, [637, 448, 449, 72, 450], g_P_clear), (.aload_n 0, 1, 0, 0, [], g_0), (.getfield 18, 3, 7, 1, [291], g_0), (.getfield 273, 3, 2, 7, [157], g_0), (.ifCond .ne 7, 3, 1, 0, [], g_0), (.lconst 0, 1, 0, 0, [], g_0), (.goto 11, 3, 2, 0, [], g_0)]
def bk_W_findShower_1 : List En := [(.aload_n 0, 1, 0, 0, [], g_0), (.iconst 0, 1, 0, 0, [], g_0), (.iload_n 1, 1, 1, 0, [], g_0), (.iload_n 2, 1, 2, 0, [], g_0), (.iload_n 3, 1, 3, 0, [], g_0), (.invokevirtual 365, 3, 4, 7, [638, 640, 21, 67, 641], g_W_obeyedFrom)]
def bk_W_findShower_2 : List En := [(.lstore 4, 2, 4, 0, [], g_0), (.lconst 1, 1, 1, 0, [], g_0), (.iconst 4, 1, 4, 0, [], g_0), (.iload_n 2, 1, 2, 0, [], g_0), (.iconst 1, 1, 1, 0, [], g_0), (.iadd, 1, 0, 0, [], g_0), (.imul, 1, 0, 0, [], g_0), (.lshl, 1, 0, 0, [], g_0), (.lstore 6, 2, 6, 0, [], g_0), (.lconst 1, 1, 1, 0, [], g_0), (.lload 4, 2, 4, 0, [], g_0), (.lload 6, 2, 6, 0, [], g_0), (.invokestatic 369, 3, 2, 1, [651, 652, 0, 67, 653], g_W_greatestDivisor), (.invokestatic 373, 3, 0, 6, [654, 655, 0, 75, 656], g_0), (.lstore 8, 2, 8, 0, [], g_0), (.aload_n 0, 1, 0, 0, [], g_0), (.getfield 63, 3, 7, 10, [300], g_0), (.iconst 0, 1, 0, 0, [], g_0), (.lload 4, 2, 4, 0, [], g_0), (.lload 8, 2, 8, 0, [], g_0), (.ldiv, 1, 0, 0, [], g_0), (.lastore, 1, 0, 0, [], g_0), (.aload_n 0, 1, 0, 0, [], g_0), (.getfield 63, 3, 7, 10, [300], g_0), (.iconst 1, 1, 1, 0, [], g_0), (.lload 6, 2, 6, 0, [], g_0), (.lload 8, 2, 8, 0, [], g_0), (.ldiv, 1, 0, 0, [], g_0), (.lastore, 1, 0, 0, [], g_0), (.return_, 1, 0, 0, [], g_0)]
def cd_W_findShower : Cd := [(0, bk_W_findShower_0), (24, bk_W_findShower_1), (32, bk_W_findShower_2), (79, [])]
def Y_W_findShower : Mth := (g_W_findShower, RW, cd_W_findShower)
set_option maxRecDepth 20000 in
theorem ok_W_findShower : okM Y_W_findShower = true := by decide +kernel
theorem en_W_findShower {d : Nat} {u : Mem} {Q : Option MV → Mem → Prop} (as : List MV) (hc : cats as ≤ 10) (h : RunB d Y_W_findShower 0 (argL as 10) [] u Q) : OKm d g_W_findShower as u Q := OKm.of (Y := Y_W_findShower) ok_W_findShower hc h
theorem rb_W_findShower_0 {d : Nat} {L : List (Option MV)} {st : List MV} {u : Mem} {Q : Option MV → Mem → Prop} (h : go d Y_W_findShower Q bk_W_findShower_0 0 L st u) : RunB (d + 1) Y_W_findShower 0 L st u Q := run_go ok_W_findShower (by decide) h
theorem rb_W_findShower_1 {d : Nat} {L : List (Option MV)} {st : List MV} {u : Mem} {Q : Option MV → Mem → Prop} (h : go d Y_W_findShower Q bk_W_findShower_1 1 L st u) : RunB (d + 1) Y_W_findShower 1 L st u Q := run_go ok_W_findShower (by decide) h
theorem rb_W_findShower_2 {d : Nat} {L : List (Option MV)} {st : List MV} {u : Mem} {Q : Option MV → Mem → Prop} (h : go d Y_W_findShower Q bk_W_findShower_2 2 L st u) : RunB (d + 1) Y_W_findShower 2 L st u Q := run_go ok_W_findShower (by decide) h
def bk_W_obeyedFrom_0 : List En := [(.iload_n 1, 1, 1, 0, [], g_0), (.iload 4, 2, 4, 0, [], g_0), (.if_icmp .le 5, 3, 1, 0, [], g_0), (.lconst 0, 1, 0, 0, [], g_0), (.lreturn, 1, 0, 0, [], g_0)]
def bk_W_obeyedFrom_1 : List En := [(.iload_n 1, 1, 1, 0, [], g_0), (.iload_n 3, 1, 3, 0, [], g_0), (.if_icmp .gt 12, 3, 2, 0, [], g_0), (.iload_n 1, 1, 1, 0, [], g_0), (.aload_n 0, 1, 0, 0, [], g_0), (.getfield 36, 3, 7, 4, [294], g_0), (.arraylength, 1, 0, 0, [], g_0), (.if_icmp .lt 19, 3, 5, 0, [], g_0)]
def bk_W_obeyedFrom_2 : List En := [(.aload_n 0, 1, 0, 0, [], g_0), (.iload_n 1, 1, 1, 0, [], g_0), (.iload 4, 2, 4, 0, [], g_0), (.invokevirtual 375, 3, 2, 7, [642, 644, 22, 67, 645], g_W_obeyedLater), (.ifCond .eq 7, 3, 3, 0, [], g_0), (.lconst 1, 1, 1, 0, [], g_0), (.goto 4, 3, 4, 0, [], g_0)]
def bk_W_obeyedFrom_3 : List En := [(.lconst 0, 1, 0, 0, [], g_0)]
def bk_W_obeyedFrom_4 : List En := [(.lreturn, 1, 0, 0, [], g_0)]
def bk_W_obeyedFrom_5 : List En := [(.aload_n 0, 1, 0, 0, [], g_0), (.getfield 18, 3, 7, 1, [291], g_0), (.getfield 129, 3, 2, 1, [142], g_0), (.iload_n 1, 1, 1, 0, [], g_0), (.iaload, 1, 0, 0, [], g_0), (.istore 5, 2, 5, 0, [], g_0), (.iload 5, 2, 5, 0, [], g_0), (.ifCond .ne 18, 3, 6, 0, [], g_0), (.ldc2_w 378, 3, 16, 0, [646], g_0), (.aload_n 0, 1, 0, 0, [], g_0), (.iconst 0, 1, 0, 0, [], g_0), (.iload_n 1, 1, 1, 0, [], g_0), (.iload_n 2, 1, 2, 0, [], g_0), (.iload_n 3, 1, 3, 0, [], g_0), (.iload 4, 2, 4, 0, [], g_0), (.invokevirtual 380, 3, 5, 7, [647, 649, 23, 67, 650], g_W_obeyedBy), (.lmul, 1, 0, 0, [], g_0), (.lreturn, 1, 0, 0, [], g_0)]
def bk_W_obeyedFrom_6 : List En := [(.aload_n 0, 1, 0, 0, [], g_0), (.getfield 36, 3, 7, 4, [294], g_0), (.iload_n 1, 1, 1, 0, [], g_0), (.aaload, 1, 0, 0, [], g_0), (.aload_n 0, 1, 0, 0, [], g_0), (.getfield 31, 3, 7, 3, [293], g_0), (.getfield 183, 3, 5, 1, [212], g_0), (.invokevirtual 187, 3, 1, 1, [533, 534, 535, 72, 536], g_P_become), (.lconst 0, 1, 0, 0, [], g_0), (.lstore 6, 2, 6, 0, [], g_0), (.iload_n 2, 1, 2, 0, [], g_0), (.ifCond .le 19, 3, 7, 0, [], g_0), (.iload_n 2, 1, 2, 0, [], g_0), (.i2l, 1, 0, 0, [], g_0), (.aload_n 0, 1, 0, 0, [], g_0), (.iload 5, 2, 5, 0, [], g_0), (.iload_n 1, 1, 1, 0, [], g_0), (.iload_n 2, 1, 2, 0, [], g_0), (.iload_n 3, 1, 3, 0, [], g_0), (.iload 4, 2, 4, 0, [], g_0), (.invokevirtual 380, 3, 5, 7, [647, 649, 23, 67, 650], g_W_obeyedBy), (.lmul, 1, 0, 0, [], g_0), (.lstore 6, 2, 6, 0, [], g_0)]
def bk_W_obeyedFrom_7 : List En := [(.iload_n 2, 1, 2, 0, [], g_0), (.bipush 16, 2, 16, 0, [], g_0), (.if_icmp .ge 40, 3, 8, 0, [], g_0), (.aload_n 0, 1, 0, 0, [], g_0), (.getfield 31, 3, 7, 3, [293], g_0), (.getfield 183, 3, 5, 1, [212], g_0), (.aload_n 0, 1, 0, 0, [], g_0), (.getfield 36, 3, 7, 4, [294], g_0), (.iload_n 1, 1, 1, 0, [], g_0), (.aaload, 1, 0, 0, [], g_0), (.invokevirtual 187, 3, 1, 1, [533, 534, 535, 72, 536], g_P_become), (.lload 6, 2, 6, 0, [], g_0), (.bipush 16, 2, 16, 0, [], g_0), (.iload_n 2, 1, 2, 0, [], g_0), (.isub, 1, 0, 0, [], g_0), (.i2l, 1, 0, 0, [], g_0), (.aload_n 0, 1, 0, 0, [], g_0), (.iconst 0, 1, 0, 0, [], g_0), (.iload_n 1, 1, 1, 0, [], g_0), (.iload_n 2, 1, 2, 0, [], g_0), (.iload_n 3, 1, 3, 0, [], g_0), (.iload 4, 2, 4, 0, [], g_0), (.invokevirtual 380, 3, 5, 7, [647, 649, 23, 67, 650], g_W_obeyedBy), (.lmul, 1, 0, 0, [], g_0), (.ladd, 1, 0, 0, [], g_0), (.lstore 6, 2, 6, 0, [], g_0)]
def bk_W_obeyedFrom_8 : List En := [(.lload 6, 2, 6, 0, [], g_0), (.lreturn, 1, 0, 0, [], g_0)]
def cd_W_obeyedFrom : Cd := [(0, bk_W_obeyedFrom_0), (8, bk_W_obeyedFrom_1), (22, bk_W_obeyedFrom_2), (36, bk_W_obeyedFrom_3), (37, bk_W_obeyedFrom_4), (38, bk_W_obeyedFrom_5), (69, bk_W_obeyedFrom_6), (108, bk_W_obeyedFrom_7), (151, bk_W_obeyedFrom_8), (154, [])]
def Y_W_obeyedFrom : Mth := (g_W_obeyedFrom, RW, cd_W_obeyedFrom)
set_option maxRecDepth 20000 in
theorem ok_W_obeyedFrom : okM Y_W_obeyedFrom = true := by decide +kernel
theorem en_W_obeyedFrom {d : Nat} {u : Mem} {Q : Option MV → Mem → Prop} (as : List MV) (hc : cats as ≤ 8) (h : RunB d Y_W_obeyedFrom 0 (argL as 8) [] u Q) : OKm d g_W_obeyedFrom as u Q := OKm.of (Y := Y_W_obeyedFrom) ok_W_obeyedFrom hc h
theorem rb_W_obeyedFrom_0 {d : Nat} {L : List (Option MV)} {st : List MV} {u : Mem} {Q : Option MV → Mem → Prop} (h : go d Y_W_obeyedFrom Q bk_W_obeyedFrom_0 0 L st u) : RunB (d + 1) Y_W_obeyedFrom 0 L st u Q := run_go ok_W_obeyedFrom (by decide) h
theorem rb_W_obeyedFrom_1 {d : Nat} {L : List (Option MV)} {st : List MV} {u : Mem} {Q : Option MV → Mem → Prop} (h : go d Y_W_obeyedFrom Q bk_W_obeyedFrom_1 1 L st u) : RunB (d + 1) Y_W_obeyedFrom 1 L st u Q := run_go ok_W_obeyedFrom (by decide) h
theorem rb_W_obeyedFrom_2 {d : Nat} {L : List (Option MV)} {st : List MV} {u : Mem} {Q : Option MV → Mem → Prop} (h : go d Y_W_obeyedFrom Q bk_W_obeyedFrom_2 2 L st u) : RunB (d + 1) Y_W_obeyedFrom 2 L st u Q := run_go ok_W_obeyedFrom (by decide) h
theorem rb_W_obeyedFrom_3 {d : Nat} {L : List (Option MV)} {st : List MV} {u : Mem} {Q : Option MV → Mem → Prop} (h : go d Y_W_obeyedFrom Q bk_W_obeyedFrom_3 3 L st u) : RunB (d + 1) Y_W_obeyedFrom 3 L st u Q := run_go ok_W_obeyedFrom (by decide) h
theorem rb_W_obeyedFrom_4 {d : Nat} {L : List (Option MV)} {st : List MV} {u : Mem} {Q : Option MV → Mem → Prop} (h : go d Y_W_obeyedFrom Q bk_W_obeyedFrom_4 4 L st u) : RunB (d + 1) Y_W_obeyedFrom 4 L st u Q := run_go ok_W_obeyedFrom (by decide) h
theorem rb_W_obeyedFrom_5 {d : Nat} {L : List (Option MV)} {st : List MV} {u : Mem} {Q : Option MV → Mem → Prop} (h : go d Y_W_obeyedFrom Q bk_W_obeyedFrom_5 5 L st u) : RunB (d + 1) Y_W_obeyedFrom 5 L st u Q := run_go ok_W_obeyedFrom (by decide) h
theorem rb_W_obeyedFrom_6 {d : Nat} {L : List (Option MV)} {st : List MV} {u : Mem} {Q : Option MV → Mem → Prop} (h : go d Y_W_obeyedFrom Q bk_W_obeyedFrom_6 6 L st u) : RunB (d + 1) Y_W_obeyedFrom 6 L st u Q := run_go ok_W_obeyedFrom (by decide) h
theorem rb_W_obeyedFrom_7 {d : Nat} {L : List (Option MV)} {st : List MV} {u : Mem} {Q : Option MV → Mem → Prop} (h : go d Y_W_obeyedFrom Q bk_W_obeyedFrom_7 7 L st u) : RunB (d + 1) Y_W_obeyedFrom 7 L st u Q := run_go ok_W_obeyedFrom (by decide) h
theorem rb_W_obeyedFrom_8 {d : Nat} {L : List (Option MV)} {st : List MV} {u : Mem} {Q : Option MV → Mem → Prop} (h : go d Y_W_obeyedFrom Q bk_W_obeyedFrom_8 8 L st u) : RunB (d + 1) Y_W_obeyedFrom 8 L st u Q := run_go ok_W_obeyedFrom (by decide) h
def bk_W_obeyedBy_0 : List En := [(.aload_n 0, 1, 0, 0, [], g_0), (.getfield 31, 3, 7, 3, [293], g_0), (.iload_n 2, 1, 2, 0, [], g_0), (.iload_n 1, 1, 1, 0, [], g_0), (.invokevirtual 191, 3, 2, 5, [544, 453, 454, 71, 455], g_T_play), (.aload_n 0, 1, 0, 0, [], g_0), (.getfield 31, 3, 7, 3, [293], g_0), (.iload_n 2, 1, 2, 0, [], g_0), (.invokevirtual 163, 3, 1, 5, [486, 487, 488, 71, 489], g_T_obeys), (.ifCond .eq 12, 3, 1, 0, [], g_0), (.lconst 1, 1, 1, 0, [], g_0), (.iconst 4, 1, 4, 0, [], g_0), (.iload 4, 2, 4, 0, [], g_0), (.iload_n 2, 1, 2, 0, [], g_0), (.isub, 1, 0, 0, [], g_0), (.imul, 1, 0, 0, [], g_0), (.lshl, 1, 0, 0, [], g_0), (.lreturn, 1, 0, 0, [], g_0)]
def bk_W_obeyedBy_1 : List En := [(.aload_n 0, 1, 0, 0, [], g_0), (.iload_n 2, 1, 2, 0, [], g_0), (.iconst 1, 1, 1, 0, [], g_0), (.iadd, 1, 0, 0, [], g_0), (.iload_n 3, 1, 3, 0, [], g_0), (.iload 4, 2, 4, 0, [], g_0), (.iload 5, 2, 5, 0, [], g_0), (.invokevirtual 365, 3, 4, 7, [638, 640, 21, 67, 641], g_W_obeyedFrom), (.lreturn, 1, 0, 0, [], g_0)]
def cd_W_obeyedBy : Cd := [(0, bk_W_obeyedBy_0), (29, bk_W_obeyedBy_1), (42, [])]
def Y_W_obeyedBy : Mth := (g_W_obeyedBy, RW, cd_W_obeyedBy)
set_option maxRecDepth 20000 in
theorem ok_W_obeyedBy : okM Y_W_obeyedBy = true := by decide +kernel
theorem en_W_obeyedBy {d : Nat} {u : Mem} {Q : Option MV → Mem → Prop} (as : List MV) (hc : cats as ≤ 6) (h : RunB d Y_W_obeyedBy 0 (argL as 6) [] u Q) : OKm d g_W_obeyedBy as u Q := OKm.of (Y := Y_W_obeyedBy) ok_W_obeyedBy hc h
theorem rb_W_obeyedBy_0 {d : Nat} {L : List (Option MV)} {st : List MV} {u : Mem} {Q : Option MV → Mem → Prop} (h : go d Y_W_obeyedBy Q bk_W_obeyedBy_0 0 L st u) : RunB (d + 1) Y_W_obeyedBy 0 L st u Q := run_go ok_W_obeyedBy (by decide) h
theorem rb_W_obeyedBy_1 {d : Nat} {L : List (Option MV)} {st : List MV} {u : Mem} {Q : Option MV → Mem → Prop} (h : go d Y_W_obeyedBy Q bk_W_obeyedBy_1 1 L st u) : RunB (d + 1) Y_W_obeyedBy 1 L st u Q := run_go ok_W_obeyedBy (by decide) h
def bk_W_obeyedLater_0 : List En := [(.iload_n 1, 1, 1, 0, [], g_0), (.istore_n 3, 1, 3, 0, [], g_0)]
def bk_W_obeyedLater_1 : List En := [(.iload_n 3, 1, 3, 0, [], g_0), (.iload_n 2, 1, 2, 0, [], g_0), (.if_icmp .gt 45, 3, 3, 0, [], g_0), (.iload_n 3, 1, 3, 0, [], g_0), (.bipush 20, 2, 20, 0, [], g_0), (.if_icmp .ge 39, 3, 3, 0, [], g_0), (.aload_n 0, 1, 0, 0, [], g_0), (.getfield 31, 3, 7, 3, [293], g_0), (.iload_n 3, 1, 3, 0, [], g_0), (.aload_n 0, 1, 0, 0, [], g_0), (.getfield 18, 3, 7, 1, [291], g_0), (.getfield 129, 3, 2, 1, [142], g_0), (.iload_n 3, 1, 3, 0, [], g_0), (.iaload, 1, 0, 0, [], g_0), (.invokevirtual 191, 3, 2, 5, [544, 453, 454, 71, 455], g_T_play), (.aload_n 0, 1, 0, 0, [], g_0), (.getfield 31, 3, 7, 3, [293], g_0), (.iload_n 3, 1, 3, 0, [], g_0), (.invokevirtual 163, 3, 1, 5, [486, 487, 488, 71, 489], g_T_obeys), (.ifCond .eq 5, 3, 2, 0, [], g_0), (.iconst 1, 1, 1, 0, [], g_0), (.ireturn, 1, 0, 1, [], g_0)]
def bk_W_obeyedLater_2 : List En := [(.iinc 3 1, 3, 3, 1, [0], g_0), (.goto (-44), 3, 1, 0, [], g_0)]
def bk_W_obeyedLater_3 : List En := [(.iconst 0, 1, 0, 0, [], g_0), (.ireturn, 1, 0, 1, [], g_0)]
def cd_W_obeyedLater : Cd := [(0, bk_W_obeyedLater_0), (2, bk_W_obeyedLater_1), (43, bk_W_obeyedLater_2), (49, bk_W_obeyedLater_3), (51, [])]
def Y_W_obeyedLater : Mth := (g_W_obeyedLater, RW, cd_W_obeyedLater)
set_option maxRecDepth 20000 in
theorem ok_W_obeyedLater : okM Y_W_obeyedLater = true := by decide +kernel
theorem en_W_obeyedLater {d : Nat} {u : Mem} {Q : Option MV → Mem → Prop} (as : List MV) (hc : cats as ≤ 4) (h : RunB d Y_W_obeyedLater 0 (argL as 4) [] u Q) : OKm d g_W_obeyedLater as u Q := OKm.of (Y := Y_W_obeyedLater) ok_W_obeyedLater hc h
theorem rb_W_obeyedLater_0 {d : Nat} {L : List (Option MV)} {st : List MV} {u : Mem} {Q : Option MV → Mem → Prop} (h : go d Y_W_obeyedLater Q bk_W_obeyedLater_0 0 L st u) : RunB (d + 1) Y_W_obeyedLater 0 L st u Q := run_go ok_W_obeyedLater (by decide) h
theorem rb_W_obeyedLater_1 {d : Nat} {L : List (Option MV)} {st : List MV} {u : Mem} {Q : Option MV → Mem → Prop} (h : go d Y_W_obeyedLater Q bk_W_obeyedLater_1 1 L st u) : RunB (d + 1) Y_W_obeyedLater 1 L st u Q := run_go ok_W_obeyedLater (by decide) h
theorem rb_W_obeyedLater_2 {d : Nat} {L : List (Option MV)} {st : List MV} {u : Mem} {Q : Option MV → Mem → Prop} (h : go d Y_W_obeyedLater Q bk_W_obeyedLater_2 2 L st u) : RunB (d + 1) Y_W_obeyedLater 2 L st u Q := run_go ok_W_obeyedLater (by decide) h
theorem rb_W_obeyedLater_3 {d : Nat} {L : List (Option MV)} {st : List MV} {u : Mem} {Q : Option MV → Mem → Prop} (h : go d Y_W_obeyedLater Q bk_W_obeyedLater_3 3 L st u) : RunB (d + 1) Y_W_obeyedLater 3 L st u Q := run_go ok_W_obeyedLater (by decide) h
def bk_W_greatestDivisor_0 : List En := [(.lload_n 0, 1, 0, 0, [], g_0), (.lstore 4, 2, 4, 0, [], g_0), (.lload_n 2, 1, 2, 0, [], g_0), (.lstore 6, 2, 6, 0, [], g_0), (.iconst 0, 1, 0, 0, [], g_0), (.istore 8, 2, 8, 0, [], g_0)]
def bk_W_greatestDivisor_1 : List En := [(.iload 8, 2, 8, 0, [], g_0), (.sipush 200, 3, 200, 0, [], g_0), (.if_icmp .ge 31, 3, 2, 0, [], g_0), (.lload 6, 2, 6, 0, [], g_0), (.lconst 0, 1, 0, 0, [], g_0), (.lcmp, 1, 0, 0, [], g_0), (.ifCond .eq 24, 3, 2, 0, [], g_0), (.lload 4, 2, 4, 0, [], g_0), (.lload 6, 2, 6, 0, [], g_0), (.lrem, 1, 0, 0, [], g_0), (.lstore 9, 2, 9, 0, [], g_0), (.lload 6, 2, 6, 0, [], g_0), (.lstore 4, 2, 4, 0, [], g_0), (.lload 9, 2, 9, 0, [], g_0), (.lstore 6, 2, 6, 0, [], g_0), (.iinc 8 1, 3, 8, 1, [0], g_0), (.goto (-33), 3, 1, 0, [], g_0)]
def bk_W_greatestDivisor_2 : List En := [(.lload 4, 2, 4, 0, [], g_0), (.lreturn, 1, 0, 0, [], g_0)]
def cd_W_greatestDivisor : Cd := [(0, bk_W_greatestDivisor_0), (9, bk_W_greatestDivisor_1), (45, bk_W_greatestDivisor_2), (48, [])]
def Y_W_greatestDivisor : Mth := (g_W_greatestDivisor, RW, cd_W_greatestDivisor)
set_option maxRecDepth 20000 in
theorem ok_W_greatestDivisor : okM Y_W_greatestDivisor = true := by decide +kernel
theorem en_W_greatestDivisor {d : Nat} {u : Mem} {Q : Option MV → Mem → Prop} (as : List MV) (hc : cats as ≤ 11) (h : RunB d Y_W_greatestDivisor 0 (argL as 11) [] u Q) : OKm d g_W_greatestDivisor as u Q := OKm.of (Y := Y_W_greatestDivisor) ok_W_greatestDivisor hc h
theorem rb_W_greatestDivisor_0 {d : Nat} {L : List (Option MV)} {st : List MV} {u : Mem} {Q : Option MV → Mem → Prop} (h : go d Y_W_greatestDivisor Q bk_W_greatestDivisor_0 0 L st u) : RunB (d + 1) Y_W_greatestDivisor 0 L st u Q := run_go ok_W_greatestDivisor (by decide) h
theorem rb_W_greatestDivisor_1 {d : Nat} {L : List (Option MV)} {st : List MV} {u : Mem} {Q : Option MV → Mem → Prop} (h : go d Y_W_greatestDivisor Q bk_W_greatestDivisor_1 1 L st u) : RunB (d + 1) Y_W_greatestDivisor 1 L st u Q := run_go ok_W_greatestDivisor (by decide) h
theorem rb_W_greatestDivisor_2 {d : Nat} {L : List (Option MV)} {st : List MV} {u : Mem} {Q : Option MV → Mem → Prop} (h : go d Y_W_greatestDivisor Q bk_W_greatestDivisor_2 2 L st u) : RunB (d + 1) Y_W_greatestDivisor 2 L st u Q := run_go ok_W_greatestDivisor (by decide) h
def bk_M_in_0 : List En := [(.lload_n 0, 1, 0, 0, [], g_0), (.lload_n 2, 1, 2, 0, [], g_0), (.lcmp, 1, 0, 0, [], g_0), (.ifCond .lt 14, 3, 1, 0, [], g_0), (.lload_n 0, 1, 0, 0, [], g_0), (.lload 4, 2, 4, 0, [], g_0), (.lcmp, 1, 0, 0, [], g_0), (.ifCond .gt 7, 3, 1, 0, [], g_0), (.iconst 1, 1, 1, 0, [], g_0), (.goto 4, 3, 2, 0, [], g_0)]
def bk_M_in_1 : List En := [(.iconst 0, 1, 0, 0, [], g_0)]
def bk_M_in_2 : List En := [(.ireturn, 1, 0, 1, [], g_0)]
def cd_M_in : Cd := [(0, bk_M_in_0), (17, bk_M_in_1), (18, bk_M_in_2), (19, [])]
def Y_M_in : Mth := (g_M_in, RM, cd_M_in)
set_option maxRecDepth 20000 in
theorem ok_M_in : okM Y_M_in = true := by decide +kernel
theorem en_M_in {d : Nat} {u : Mem} {Q : Option MV → Mem → Prop} (as : List MV) (hc : cats as ≤ 6) (h : RunB d Y_M_in 0 (argL as 6) [] u Q) : OKm d g_M_in as u Q := OKm.of (Y := Y_M_in) ok_M_in hc h
theorem rb_M_in_0 {d : Nat} {L : List (Option MV)} {st : List MV} {u : Mem} {Q : Option MV → Mem → Prop} (h : go d Y_M_in Q bk_M_in_0 0 L st u) : RunB (d + 1) Y_M_in 0 L st u Q := run_go ok_M_in (by decide) h
theorem rb_M_in_1 {d : Nat} {L : List (Option MV)} {st : List MV} {u : Mem} {Q : Option MV → Mem → Prop} (h : go d Y_M_in Q bk_M_in_1 1 L st u) : RunB (d + 1) Y_M_in 1 L st u Q := run_go ok_M_in (by decide) h
theorem rb_M_in_2 {d : Nat} {L : List (Option MV)} {st : List MV} {u : Mem} {Q : Option MV → Mem → Prop} (h : go d Y_M_in Q bk_M_in_2 2 L st u) : RunB (d + 1) Y_M_in 2 L st u Q := run_go ok_M_in (by decide) h
def bk_M_no_0 : List En := [(.ldc2_w 68, 3, 9223372036854775808, 1, [1149], g_0), (.iload_n 0, 1, 0, 0, [], g_0), (.i2l, 1, 0, 0, [], g_0), (.lsub, 1, 0, 0, [], g_0), (.lreturn, 1, 0, 0, [], g_0)]
def cd_M_no : Cd := [(0, bk_M_no_0), (7, [])]
def Y_M_no : Mth := (g_M_no, RM, cd_M_no)
set_option maxRecDepth 20000 in
theorem ok_M_no : okM Y_M_no = true := by decide +kernel
theorem en_M_no {d : Nat} {u : Mem} {Q : Option MV → Mem → Prop} (as : List MV) (hc : cats as ≤ 1) (h : RunB d Y_M_no 0 (argL as 1) [] u Q) : OKm d g_M_no as u Q := OKm.of (Y := Y_M_no) ok_M_no hc h
theorem rb_M_no_0 {d : Nat} {L : List (Option MV)} {st : List MV} {u : Mem} {Q : Option MV → Mem → Prop} (h : go d Y_M_no Q bk_M_no_0 0 L st u) : RunB (d + 1) Y_M_no 0 L st u Q := run_go ok_M_no (by decide) h
def bk_M_isTwo_0 : List En := [(.iload_n 0, 1, 0, 0, [], g_0), (.i2l, 1, 0, 0, [], g_0), (.lconst 0, 1, 0, 0, [], g_0), (.lconst 1, 1, 1, 0, [], g_0), (.invokestatic 70, 3, 3, 1, [845, 846, 0, 77, 847], g_M_in), (.ireturn, 1, 0, 1, [], g_0)]
def cd_M_isTwo : Cd := [(0, bk_M_isTwo_0), (8, [])]
def Y_M_isTwo : Mth := (g_M_isTwo, RM, cd_M_isTwo)
set_option maxRecDepth 20000 in
theorem ok_M_isTwo : okM Y_M_isTwo = true := by decide +kernel
theorem en_M_isTwo {d : Nat} {u : Mem} {Q : Option MV → Mem → Prop} (as : List MV) (hc : cats as ≤ 1) (h : RunB d Y_M_isTwo 0 (argL as 1) [] u Q) : OKm d g_M_isTwo as u Q := OKm.of (Y := Y_M_isTwo) ok_M_isTwo hc h
theorem rb_M_isTwo_0 {d : Nat} {L : List (Option MV)} {st : List MV} {u : Mem} {Q : Option MV → Mem → Prop} (h : go d Y_M_isTwo Q bk_M_isTwo_0 0 L st u) : RunB (d + 1) Y_M_isTwo 0 L st u Q := run_go ok_M_isTwo (by decide) h
def bk_M_isIn_0 : List En := [(.iload_n 0, 1, 0, 0, [], g_0), (.iload_n 1, 1, 1, 0, [], g_0), (.ishr, 1, 0, 0, [], g_0), (.iconst 1, 1, 1, 0, [], g_0), (.iand, 1, 0, 0, [], g_0), (.iconst 1, 1, 1, 0, [], g_0), (.if_icmp .ne 7, 3, 1, 0, [], g_0), (.iconst 1, 1, 1, 0, [], g_0), (.goto 4, 3, 2, 0, [], g_0)]
def bk_M_isIn_1 : List En := [(.iconst 0, 1, 0, 0, [], g_0)]
def bk_M_isIn_2 : List En := [(.ireturn, 1, 0, 1, [], g_0)]
def cd_M_isIn : Cd := [(0, bk_M_isIn_0), (13, bk_M_isIn_1), (14, bk_M_isIn_2), (15, [])]
def Y_M_isIn : Mth := (g_M_isIn, RM, cd_M_isIn)
set_option maxRecDepth 20000 in
theorem ok_M_isIn : okM Y_M_isIn = true := by decide +kernel
theorem en_M_isIn {d : Nat} {u : Mem} {Q : Option MV → Mem → Prop} (as : List MV) (hc : cats as ≤ 2) (h : RunB d Y_M_isIn 0 (argL as 2) [] u Q) : OKm d g_M_isIn as u Q := OKm.of (Y := Y_M_isIn) ok_M_isIn hc h
theorem rb_M_isIn_0 {d : Nat} {L : List (Option MV)} {st : List MV} {u : Mem} {Q : Option MV → Mem → Prop} (h : go d Y_M_isIn Q bk_M_isIn_0 0 L st u) : RunB (d + 1) Y_M_isIn 0 L st u Q := run_go ok_M_isIn (by decide) h
theorem rb_M_isIn_1 {d : Nat} {L : List (Option MV)} {st : List MV} {u : Mem} {Q : Option MV → Mem → Prop} (h : go d Y_M_isIn Q bk_M_isIn_1 1 L st u) : RunB (d + 1) Y_M_isIn 1 L st u Q := run_go ok_M_isIn (by decide) h
theorem rb_M_isIn_2 {d : Nat} {L : List (Option MV)} {st : List MV} {u : Mem} {Q : Option MV → Mem → Prop} (h : go d Y_M_isIn Q bk_M_isIn_2 2 L st u) : RunB (d + 1) Y_M_isIn 2 L st u Q := run_go ok_M_isIn (by decide) h
def bk_M_ones_0 : List En := [(.iconst 0, 1, 0, 0, [], g_0), (.istore_n 1, 1, 1, 0, [], g_0), (.iload_n 0, 1, 0, 0, [], g_0), (.istore_n 2, 1, 2, 0, [], g_0)]
def bk_M_ones_1 : List En := [(.iload_n 2, 1, 2, 0, [], g_0), (.ifCond .eq 15, 3, 2, 0, [], g_0), (.iinc 1 1, 3, 1, 1, [0], g_0), (.iload_n 2, 1, 2, 0, [], g_0), (.iload_n 2, 1, 2, 0, [], g_0), (.iconst 1, 1, 1, 0, [], g_0), (.isub, 1, 0, 0, [], g_0), (.iand, 1, 0, 0, [], g_0), (.istore_n 2, 1, 2, 0, [], g_0), (.goto (-13), 3, 1, 0, [], g_0)]
def bk_M_ones_2 : List En := [(.iload_n 1, 1, 1, 0, [], g_0), (.ireturn, 1, 0, 0, [], g_0)]
def cd_M_ones : Cd := [(0, bk_M_ones_0), (4, bk_M_ones_1), (20, bk_M_ones_2), (22, [])]
def Y_M_ones : Mth := (g_M_ones, RM, cd_M_ones)
set_option maxRecDepth 20000 in
theorem ok_M_ones : okM Y_M_ones = true := by decide +kernel
theorem en_M_ones {d : Nat} {u : Mem} {Q : Option MV → Mem → Prop} (as : List MV) (hc : cats as ≤ 3) (h : RunB d Y_M_ones 0 (argL as 3) [] u Q) : OKm d g_M_ones as u Q := OKm.of (Y := Y_M_ones) ok_M_ones hc h
theorem rb_M_ones_0 {d : Nat} {L : List (Option MV)} {st : List MV} {u : Mem} {Q : Option MV → Mem → Prop} (h : go d Y_M_ones Q bk_M_ones_0 0 L st u) : RunB (d + 1) Y_M_ones 0 L st u Q := run_go ok_M_ones (by decide) h
theorem rb_M_ones_1 {d : Nat} {L : List (Option MV)} {st : List MV} {u : Mem} {Q : Option MV → Mem → Prop} (h : go d Y_M_ones Q bk_M_ones_1 1 L st u) : RunB (d + 1) Y_M_ones 1 L st u Q := run_go ok_M_ones (by decide) h
theorem rb_M_ones_2 {d : Nat} {L : List (Option MV)} {st : List MV} {u : Mem} {Q : Option MV → Mem → Prop} (h : go d Y_M_ones Q bk_M_ones_2 2 L st u) : RunB (d + 1) Y_M_ones 2 L st u Q := run_go ok_M_ones (by decide) h
def bk_M_lesser_0 : List En := [(.iload_n 0, 1, 0, 0, [], g_0), (.iload_n 1, 1, 1, 0, [], g_0), (.if_icmp .ge 7, 3, 1, 0, [], g_0), (.iload_n 0, 1, 0, 0, [], g_0), (.goto 4, 3, 2, 0, [], g_0)]
def bk_M_lesser_1 : List En := [(.iload_n 1, 1, 1, 0, [], g_0)]
def bk_M_lesser_2 : List En := [(.ireturn, 1, 0, 0, [], g_0)]
def cd_M_lesser : Cd := [(0, bk_M_lesser_0), (9, bk_M_lesser_1), (10, bk_M_lesser_2), (11, [])]
def Y_M_lesser : Mth := (g_M_lesser, RM, cd_M_lesser)
set_option maxRecDepth 20000 in
theorem ok_M_lesser : okM Y_M_lesser = true := by decide +kernel
theorem en_M_lesser {d : Nat} {u : Mem} {Q : Option MV → Mem → Prop} (as : List MV) (hc : cats as ≤ 2) (h : RunB d Y_M_lesser 0 (argL as 2) [] u Q) : OKm d g_M_lesser as u Q := OKm.of (Y := Y_M_lesser) ok_M_lesser hc h
theorem rb_M_lesser_0 {d : Nat} {L : List (Option MV)} {st : List MV} {u : Mem} {Q : Option MV → Mem → Prop} (h : go d Y_M_lesser Q bk_M_lesser_0 0 L st u) : RunB (d + 1) Y_M_lesser 0 L st u Q := run_go ok_M_lesser (by decide) h
theorem rb_M_lesser_1 {d : Nat} {L : List (Option MV)} {st : List MV} {u : Mem} {Q : Option MV → Mem → Prop} (h : go d Y_M_lesser Q bk_M_lesser_1 1 L st u) : RunB (d + 1) Y_M_lesser 1 L st u Q := run_go ok_M_lesser (by decide) h
theorem rb_M_lesser_2 {d : Nat} {L : List (Option MV)} {st : List MV} {u : Mem} {Q : Option MV → Mem → Prop} (h : go d Y_M_lesser Q bk_M_lesser_2 2 L st u) : RunB (d + 1) Y_M_lesser 2 L st u Q := run_go ok_M_lesser (by decide) h
def bk_M_greater_0 : List En := [(.iload_n 0, 1, 0, 0, [], g_0), (.iload_n 1, 1, 1, 0, [], g_0), (.if_icmp .le 7, 3, 1, 0, [], g_0), (.iload_n 0, 1, 0, 0, [], g_0), (.goto 4, 3, 2, 0, [], g_0)]
def bk_M_greater_1 : List En := [(.iload_n 1, 1, 1, 0, [], g_0)]
def bk_M_greater_2 : List En := [(.ireturn, 1, 0, 0, [], g_0)]
def cd_M_greater : Cd := [(0, bk_M_greater_0), (9, bk_M_greater_1), (10, bk_M_greater_2), (11, [])]
def Y_M_greater : Mth := (g_M_greater, RM, cd_M_greater)
set_option maxRecDepth 20000 in
theorem ok_M_greater : okM Y_M_greater = true := by decide +kernel
theorem en_M_greater {d : Nat} {u : Mem} {Q : Option MV → Mem → Prop} (as : List MV) (hc : cats as ≤ 2) (h : RunB d Y_M_greater 0 (argL as 2) [] u Q) : OKm d g_M_greater as u Q := OKm.of (Y := Y_M_greater) ok_M_greater hc h
theorem rb_M_greater_0 {d : Nat} {L : List (Option MV)} {st : List MV} {u : Mem} {Q : Option MV → Mem → Prop} (h : go d Y_M_greater Q bk_M_greater_0 0 L st u) : RunB (d + 1) Y_M_greater 0 L st u Q := run_go ok_M_greater (by decide) h
theorem rb_M_greater_1 {d : Nat} {L : List (Option MV)} {st : List MV} {u : Mem} {Q : Option MV → Mem → Prop} (h : go d Y_M_greater Q bk_M_greater_1 1 L st u) : RunB (d + 1) Y_M_greater 1 L st u Q := run_go ok_M_greater (by decide) h
theorem rb_M_greater_2 {d : Nat} {L : List (Option MV)} {st : List MV} {u : Mem} {Q : Option MV → Mem → Prop} (h : go d Y_M_greater Q bk_M_greater_2 2 L st u) : RunB (d + 1) Y_M_greater 2 L st u Q := run_go ok_M_greater (by decide) h
def bk_M_part_0 : List En := [(.lload_n 0, 1, 0, 0, [], g_0), (.lstore 5, 2, 5, 0, [], g_0), (.lload_n 2, 1, 2, 0, [], g_0), (.lstore 7, 2, 7, 0, [], g_0)]
def bk_M_part_1 : List En := [(.lload 7, 2, 7, 0, [], g_0), (.lconst 0, 1, 0, 0, [], g_0), (.lcmp, 1, 0, 0, [], g_0), (.ifCond .eq 21, 3, 2, 0, [], g_0), (.lload 5, 2, 5, 0, [], g_0), (.lload 7, 2, 7, 0, [], g_0), (.lrem, 1, 0, 0, [], g_0), (.lstore 9, 2, 9, 0, [], g_0), (.lload 7, 2, 7, 0, [], g_0), (.lstore 5, 2, 5, 0, [], g_0), (.lload 9, 2, 9, 0, [], g_0), (.lstore 7, 2, 7, 0, [], g_0), (.goto (-22), 3, 1, 0, [], g_0)]
def bk_M_part_2 : List En := [(.iload 4, 2, 4, 0, [], g_0), (.ifCond .ne 7, 3, 3, 0, [], g_0), (.lload_n 0, 1, 0, 0, [], g_0), (.goto 4, 3, 4, 0, [], g_0)]
def bk_M_part_3 : List En := [(.lload_n 2, 1, 2, 0, [], g_0)]
def bk_M_part_4 : List En := [(.lload 5, 2, 5, 0, [], g_0), (.ldiv, 1, 0, 0, [], g_0), (.lreturn, 1, 0, 0, [], g_0)]
def cd_M_part : Cd := [(0, bk_M_part_0), (6, bk_M_part_1), (31, bk_M_part_2), (40, bk_M_part_3), (41, bk_M_part_4), (45, [])]
def Y_M_part : Mth := (g_M_part, RM, cd_M_part)
set_option maxRecDepth 20000 in
theorem ok_M_part : okM Y_M_part = true := by decide +kernel
theorem en_M_part {d : Nat} {u : Mem} {Q : Option MV → Mem → Prop} (as : List MV) (hc : cats as ≤ 11) (h : RunB d Y_M_part 0 (argL as 11) [] u Q) : OKm d g_M_part as u Q := OKm.of (Y := Y_M_part) ok_M_part hc h
theorem rb_M_part_0 {d : Nat} {L : List (Option MV)} {st : List MV} {u : Mem} {Q : Option MV → Mem → Prop} (h : go d Y_M_part Q bk_M_part_0 0 L st u) : RunB (d + 1) Y_M_part 0 L st u Q := run_go ok_M_part (by decide) h
theorem rb_M_part_1 {d : Nat} {L : List (Option MV)} {st : List MV} {u : Mem} {Q : Option MV → Mem → Prop} (h : go d Y_M_part Q bk_M_part_1 1 L st u) : RunB (d + 1) Y_M_part 1 L st u Q := run_go ok_M_part (by decide) h
theorem rb_M_part_2 {d : Nat} {L : List (Option MV)} {st : List MV} {u : Mem} {Q : Option MV → Mem → Prop} (h : go d Y_M_part Q bk_M_part_2 2 L st u) : RunB (d + 1) Y_M_part 2 L st u Q := run_go ok_M_part (by decide) h
theorem rb_M_part_3 {d : Nat} {L : List (Option MV)} {st : List MV} {u : Mem} {Q : Option MV → Mem → Prop} (h : go d Y_M_part Q bk_M_part_3 3 L st u) : RunB (d + 1) Y_M_part 3 L st u Q := run_go ok_M_part (by decide) h
theorem rb_M_part_4 {d : Nat} {L : List (Option MV)} {st : List MV} {u : Mem} {Q : Option MV → Mem → Prop} (h : go d Y_M_part Q bk_M_part_4 4 L st u) : RunB (d + 1) Y_M_part 4 L st u Q := run_go ok_M_part (by decide) h
def bk_M_finds_0 : List En := [(.aload_n 0, 1, 0, 0, [], g_0), (.iload_n 1, 1, 1, 0, [], g_0), (.putfield 74, 3, 8, 4, [756], g_0), (.bipush (-10), 2, 10, 1, [], g_0), (.iload_n 1, 1, 1, 0, [], g_0), (.isub, 1, 0, 0, [], g_0), (.ireturn, 1, 0, 0, [], g_0)]
def cd_M_finds : Cd := [(0, bk_M_finds_0), (10, [])]
def Y_M_finds : Mth := (g_M_finds, RM, cd_M_finds)
set_option maxRecDepth 20000 in
theorem ok_M_finds : okM Y_M_finds = true := by decide +kernel
theorem en_M_finds {d : Nat} {u : Mem} {Q : Option MV → Mem → Prop} (as : List MV) (hc : cats as ≤ 2) (h : RunB d Y_M_finds 0 (argL as 2) [] u Q) : OKm d g_M_finds as u Q := OKm.of (Y := Y_M_finds) ok_M_finds hc h
theorem rb_M_finds_0 {d : Nat} {L : List (Option MV)} {st : List MV} {u : Mem} {Q : Option MV → Mem → Prop} (h : go d Y_M_finds Q bk_M_finds_0 0 L st u) : RunB (d + 1) Y_M_finds 0 L st u Q := run_go ok_M_finds (by decide) h
def bk_M_isSheet_0 : List En := [(.iload_n 0, 1, 0, 0, [], g_0), (.i2l, 1, 0, 0, [], g_0), (.lconst 0, 1, 0, 0, [], g_0), (.ldc2_w 77, 3, 3, 0, [844], g_0), (.invokestatic 70, 3, 3, 1, [845, 846, 0, 77, 847], g_M_in), (.ireturn, 1, 0, 1, [], g_0)]
def cd_M_isSheet : Cd := [(0, bk_M_isSheet_0), (10, [])]
def Y_M_isSheet : Mth := (g_M_isSheet, RM, cd_M_isSheet)
set_option maxRecDepth 20000 in
theorem ok_M_isSheet : okM Y_M_isSheet = true := by decide +kernel
theorem en_M_isSheet {d : Nat} {u : Mem} {Q : Option MV → Mem → Prop} (as : List MV) (hc : cats as ≤ 1) (h : RunB d Y_M_isSheet 0 (argL as 1) [] u Q) : OKm d g_M_isSheet as u Q := OKm.of (Y := Y_M_isSheet) ok_M_isSheet hc h
theorem rb_M_isSheet_0 {d : Nat} {L : List (Option MV)} {st : List MV} {u : Mem} {Q : Option MV → Mem → Prop} (h : go d Y_M_isSheet Q bk_M_isSheet_0 0 L st u) : RunB (d + 1) Y_M_isSheet 0 L st u Q := run_go ok_M_isSheet (by decide) h
def bk_M_sheet_0 : List En := [(.iload_n 1, 1, 1, 0, [], g_0), (.invokestatic 79, 3, 1, 1, [841, 842, 0, 77, 843], g_M_isSheet), (.ifCond .eq 21, 3, 1, 0, [], g_0), (.iload_n 2, 1, 2, 0, [], g_0), (.i2l, 1, 0, 0, [], g_0), (.lconst 0, 1, 0, 0, [], g_0), (.ldc2_w 83, 3, 2, 0, [848], g_0), (.invokestatic 70, 3, 3, 1, [845, 846, 0, 77, 847], g_M_in), (.ifCond .eq 9, 3, 1, 0, [], g_0), (.iload_n 3, 1, 3, 0, [], g_0), (.bipush 60, 2, 60, 0, [], g_0), (.if_icmp .le 6, 3, 2, 0, [], g_0)]
def bk_M_sheet_1 : List En := [(.bipush (-2), 2, 2, 1, [], g_0), (.ireturn, 1, 0, 0, [], g_0)]
def bk_M_sheet_2 : List En := [(.iload_n 3, 1, 3, 0, [], g_0), (.ifCond .ge 9, 3, 3, 0, [], g_0), (.aload_n 0, 1, 0, 0, [], g_0), (.iconst 5, 1, 5, 0, [], g_0), (.invokevirtual 85, 3, 1, 8, [849, 851, 26, 77, 852], g_M_finds), (.ireturn, 1, 0, 0, [], g_0)]
def bk_M_sheet_3 : List En := [(.aload_n 0, 1, 0, 0, [], g_0), (.getfield 7, 3, 8, 0, [752], g_0), (.iload_n 1, 1, 1, 0, [], g_0), (.iload_n 2, 1, 2, 0, [], g_0), (.iastore, 1, 0, 0, [], g_0), (.aload_n 0, 1, 0, 0, [], g_0), (.getfield 13, 3, 8, 1, [753], g_0), (.iload_n 1, 1, 1, 0, [], g_0), (.iload_n 3, 1, 3, 0, [], g_0), (.iastore, 1, 0, 0, [], g_0), (.iconst 0, 1, 0, 0, [], g_0), (.istore 4, 2, 4, 0, [], g_0)]
def bk_M_sheet_4 : List En := [(.iload 4, 2, 4, 0, [], g_0), (.iload_n 3, 1, 3, 0, [], g_0), (.if_icmp .ge 22, 3, 5, 0, [], g_0), (.aload_n 0, 1, 0, 0, [], g_0), (.getfield 16, 3, 8, 2, [754], g_0), (.bipush 60, 2, 60, 0, [], g_0), (.iload_n 1, 1, 1, 0, [], g_0), (.imul, 1, 0, 0, [], g_0), (.iload 4, 2, 4, 0, [], g_0), (.iadd, 1, 0, 0, [], g_0), (.iconst 0, 1, 0, 0, [], g_0), (.iastore, 1, 0, 0, [], g_0), (.iinc 4 1, 3, 4, 1, [0], g_0), (.goto (-22), 3, 4, 0, [], g_0)]
def bk_M_sheet_5 : List En := [(.iload_n 3, 1, 3, 0, [], g_0), (.ireturn, 1, 0, 0, [], g_0)]
def cd_M_sheet : Cd := [(0, bk_M_sheet_0), (25, bk_M_sheet_1), (28, bk_M_sheet_2), (38, bk_M_sheet_3), (55, bk_M_sheet_4), (80, bk_M_sheet_5), (82, [])]
def Y_M_sheet : Mth := (g_M_sheet, RM, cd_M_sheet)
set_option maxRecDepth 20000 in
theorem ok_M_sheet : okM Y_M_sheet = true := by decide +kernel
theorem en_M_sheet {d : Nat} {u : Mem} {Q : Option MV → Mem → Prop} (as : List MV) (hc : cats as ≤ 5) (h : RunB d Y_M_sheet 0 (argL as 5) [] u Q) : OKm d g_M_sheet as u Q := OKm.of (Y := Y_M_sheet) ok_M_sheet hc h
theorem rb_M_sheet_0 {d : Nat} {L : List (Option MV)} {st : List MV} {u : Mem} {Q : Option MV → Mem → Prop} (h : go d Y_M_sheet Q bk_M_sheet_0 0 L st u) : RunB (d + 1) Y_M_sheet 0 L st u Q := run_go ok_M_sheet (by decide) h
theorem rb_M_sheet_1 {d : Nat} {L : List (Option MV)} {st : List MV} {u : Mem} {Q : Option MV → Mem → Prop} (h : go d Y_M_sheet Q bk_M_sheet_1 1 L st u) : RunB (d + 1) Y_M_sheet 1 L st u Q := run_go ok_M_sheet (by decide) h
theorem rb_M_sheet_2 {d : Nat} {L : List (Option MV)} {st : List MV} {u : Mem} {Q : Option MV → Mem → Prop} (h : go d Y_M_sheet Q bk_M_sheet_2 2 L st u) : RunB (d + 1) Y_M_sheet 2 L st u Q := run_go ok_M_sheet (by decide) h
theorem rb_M_sheet_3 {d : Nat} {L : List (Option MV)} {st : List MV} {u : Mem} {Q : Option MV → Mem → Prop} (h : go d Y_M_sheet Q bk_M_sheet_3 3 L st u) : RunB (d + 1) Y_M_sheet 3 L st u Q := run_go ok_M_sheet (by decide) h
theorem rb_M_sheet_4 {d : Nat} {L : List (Option MV)} {st : List MV} {u : Mem} {Q : Option MV → Mem → Prop} (h : go d Y_M_sheet Q bk_M_sheet_4 4 L st u) : RunB (d + 1) Y_M_sheet 4 L st u Q := run_go ok_M_sheet (by decide) h
theorem rb_M_sheet_5 {d : Nat} {L : List (Option MV)} {st : List MV} {u : Mem} {Q : Option MV → Mem → Prop} (h : go d Y_M_sheet Q bk_M_sheet_5 5 L st u) : RunB (d + 1) Y_M_sheet 5 L st u Q := run_go ok_M_sheet (by decide) h
def bk_M_lose_0 : List En := [(.iload_n 1, 1, 1, 0, [], g_0), (.invokestatic 79, 3, 1, 1, [841, 842, 0, 77, 843], g_M_isSheet), (.ifCond .ne 6, 3, 1, 0, [], g_0), (.bipush (-2), 2, 2, 1, [], g_0), (.ireturn, 1, 0, 0, [], g_0)]
def bk_M_lose_1 : List En := [(.aload_n 0, 1, 0, 0, [], g_0), (.getfield 7, 3, 8, 0, [752], g_0), (.iload_n 1, 1, 1, 0, [], g_0), (.iaload, 1, 0, 0, [], g_0), (.ifCond .ge 9, 3, 2, 0, [], g_0), (.aload_n 0, 1, 0, 0, [], g_0), (.iconst 1, 1, 1, 0, [], g_0), (.invokevirtual 85, 3, 1, 8, [849, 851, 26, 77, 852], g_M_finds), (.ireturn, 1, 0, 0, [], g_0)]
def bk_M_lose_2 : List En := [(.aload_n 0, 1, 0, 0, [], g_0), (.getfield 7, 3, 8, 0, [752], g_0), (.iload_n 1, 1, 1, 0, [], g_0), (.iconst (-1), 1, 1, 1, [], g_0), (.iastore, 1, 0, 0, [], g_0), (.aload_n 0, 1, 0, 0, [], g_0), (.getfield 13, 3, 8, 1, [753], g_0), (.iload_n 1, 1, 1, 0, [], g_0), (.iaload, 1, 0, 0, [], g_0), (.ireturn, 1, 0, 0, [], g_0)]
def cd_M_lose : Cd := [(0, bk_M_lose_0), (10, bk_M_lose_1), (25, bk_M_lose_2), (39, [])]
def Y_M_lose : Mth := (g_M_lose, RM, cd_M_lose)
set_option maxRecDepth 20000 in
theorem ok_M_lose : okM Y_M_lose = true := by decide +kernel
theorem en_M_lose {d : Nat} {u : Mem} {Q : Option MV → Mem → Prop} (as : List MV) (hc : cats as ≤ 2) (h : RunB d Y_M_lose 0 (argL as 2) [] u Q) : OKm d g_M_lose as u Q := OKm.of (Y := Y_M_lose) ok_M_lose hc h
theorem rb_M_lose_0 {d : Nat} {L : List (Option MV)} {st : List MV} {u : Mem} {Q : Option MV → Mem → Prop} (h : go d Y_M_lose Q bk_M_lose_0 0 L st u) : RunB (d + 1) Y_M_lose 0 L st u Q := run_go ok_M_lose (by decide) h
theorem rb_M_lose_1 {d : Nat} {L : List (Option MV)} {st : List MV} {u : Mem} {Q : Option MV → Mem → Prop} (h : go d Y_M_lose Q bk_M_lose_1 1 L st u) : RunB (d + 1) Y_M_lose 1 L st u Q := run_go ok_M_lose (by decide) h
theorem rb_M_lose_2 {d : Nat} {L : List (Option MV)} {st : List MV} {u : Mem} {Q : Option MV → Mem → Prop} (h : go d Y_M_lose Q bk_M_lose_2 2 L st u) : RunB (d + 1) Y_M_lose 2 L st u Q := run_go ok_M_lose (by decide) h
def bk_M_lacks_0 : List En := [(.aload_n 0, 1, 0, 0, [], g_0), (.getfield 7, 3, 8, 0, [752], g_0), (.iload_n 1, 1, 1, 0, [], g_0), (.iaload, 1, 0, 0, [], g_0), (.ifCond .ge 9, 3, 1, 0, [], g_0), (.aload_n 0, 1, 0, 0, [], g_0), (.iconst 1, 1, 1, 0, [], g_0), (.invokevirtual 85, 3, 1, 8, [849, 851, 26, 77, 852], g_M_finds), (.ireturn, 1, 0, 0, [], g_0)]
def bk_M_lacks_1 : List En := [(.aload_n 0, 1, 0, 0, [], g_0), (.getfield 7, 3, 8, 0, [752], g_0), (.iload_n 1, 1, 1, 0, [], g_0), (.iaload, 1, 0, 0, [], g_0), (.iload_n 2, 1, 2, 0, [], g_0), (.if_icmp .eq 9, 3, 2, 0, [], g_0), (.aload_n 0, 1, 0, 0, [], g_0), (.iconst 3, 1, 3, 0, [], g_0), (.invokevirtual 85, 3, 1, 8, [849, 851, 26, 77, 852], g_M_finds), (.ireturn, 1, 0, 0, [], g_0)]
def bk_M_lacks_2 : List En := [(.iload_n 3, 1, 3, 0, [], g_0), (.i2l, 1, 0, 0, [], g_0), (.lconst 0, 1, 0, 0, [], g_0), (.aload_n 0, 1, 0, 0, [], g_0), (.getfield 13, 3, 8, 1, [753], g_0), (.iload_n 1, 1, 1, 0, [], g_0), (.iaload, 1, 0, 0, [], g_0), (.iconst 1, 1, 1, 0, [], g_0), (.isub, 1, 0, 0, [], g_0), (.i2l, 1, 0, 0, [], g_0), (.invokestatic 70, 3, 3, 1, [845, 846, 0, 77, 847], g_M_in), (.ifCond .eq 7, 3, 3, 0, [], g_0), (.iconst 0, 1, 0, 0, [], g_0), (.goto 8, 3, 4, 0, [], g_0)]
def bk_M_lacks_3 : List En := [(.aload_n 0, 1, 0, 0, [], g_0), (.iconst 2, 1, 2, 0, [], g_0), (.invokevirtual 85, 3, 1, 8, [849, 851, 26, 77, 852], g_M_finds)]
def bk_M_lacks_4 : List En := [(.ireturn, 1, 0, 0, [], g_0)]
def cd_M_lacks : Cd := [(0, bk_M_lacks_0), (15, bk_M_lacks_1), (31, bk_M_lacks_2), (53, bk_M_lacks_3), (58, bk_M_lacks_4), (59, [])]
def Y_M_lacks : Mth := (g_M_lacks, RM, cd_M_lacks)
set_option maxRecDepth 20000 in
theorem ok_M_lacks : okM Y_M_lacks = true := by decide +kernel
theorem en_M_lacks {d : Nat} {u : Mem} {Q : Option MV → Mem → Prop} (as : List MV) (hc : cats as ≤ 4) (h : RunB d Y_M_lacks 0 (argL as 4) [] u Q) : OKm d g_M_lacks as u Q := OKm.of (Y := Y_M_lacks) ok_M_lacks hc h
theorem rb_M_lacks_0 {d : Nat} {L : List (Option MV)} {st : List MV} {u : Mem} {Q : Option MV → Mem → Prop} (h : go d Y_M_lacks Q bk_M_lacks_0 0 L st u) : RunB (d + 1) Y_M_lacks 0 L st u Q := run_go ok_M_lacks (by decide) h
theorem rb_M_lacks_1 {d : Nat} {L : List (Option MV)} {st : List MV} {u : Mem} {Q : Option MV → Mem → Prop} (h : go d Y_M_lacks Q bk_M_lacks_1 1 L st u) : RunB (d + 1) Y_M_lacks 1 L st u Q := run_go ok_M_lacks (by decide) h
theorem rb_M_lacks_2 {d : Nat} {L : List (Option MV)} {st : List MV} {u : Mem} {Q : Option MV → Mem → Prop} (h : go d Y_M_lacks Q bk_M_lacks_2 2 L st u) : RunB (d + 1) Y_M_lacks 2 L st u Q := run_go ok_M_lacks (by decide) h
theorem rb_M_lacks_3 {d : Nat} {L : List (Option MV)} {st : List MV} {u : Mem} {Q : Option MV → Mem → Prop} (h : go d Y_M_lacks Q bk_M_lacks_3 3 L st u) : RunB (d + 1) Y_M_lacks 3 L st u Q := run_go ok_M_lacks (by decide) h
theorem rb_M_lacks_4 {d : Nat} {L : List (Option MV)} {st : List MV} {u : Mem} {Q : Option MV → Mem → Prop} (h : go d Y_M_lacks Q bk_M_lacks_4 4 L st u) : RunB (d + 1) Y_M_lacks 4 L st u Q := run_go ok_M_lacks (by decide) h
def bk_M_cut_0 : List En := [(.iload_n 0, 1, 0, 0, [], g_0), (.ifCond .ne 8, 3, 1, 0, [], g_0), (.iload_n 1, 1, 1, 0, [], g_0), (.i2b, 1, 0, 0, [], g_0), (.goto 14, 3, 3, 0, [], g_0)]
def bk_M_cut_1 : List En := [(.iload_n 0, 1, 0, 0, [], g_0), (.iconst 1, 1, 1, 0, [], g_0), (.if_icmp .ne 8, 3, 2, 0, [], g_0), (.iload_n 1, 1, 1, 0, [], g_0), (.i2s, 1, 0, 0, [], g_0), (.goto 4, 3, 3, 0, [], g_0)]
def bk_M_cut_2 : List En := [(.iload_n 1, 1, 1, 0, [], g_0)]
def bk_M_cut_3 : List En := [(.ireturn, 1, 0, 0, [], g_0)]
def cd_M_cut : Cd := [(0, bk_M_cut_0), (9, bk_M_cut_1), (19, bk_M_cut_2), (20, bk_M_cut_3), (21, [])]
def Y_M_cut : Mth := (g_M_cut, RM, cd_M_cut)
set_option maxRecDepth 20000 in
theorem ok_M_cut : okM Y_M_cut = true := by decide +kernel
theorem en_M_cut {d : Nat} {u : Mem} {Q : Option MV → Mem → Prop} (as : List MV) (hc : cats as ≤ 2) (h : RunB d Y_M_cut 0 (argL as 2) [] u Q) : OKm d g_M_cut as u Q := OKm.of (Y := Y_M_cut) ok_M_cut hc h
theorem rb_M_cut_0 {d : Nat} {L : List (Option MV)} {st : List MV} {u : Mem} {Q : Option MV → Mem → Prop} (h : go d Y_M_cut Q bk_M_cut_0 0 L st u) : RunB (d + 1) Y_M_cut 0 L st u Q := run_go ok_M_cut (by decide) h
theorem rb_M_cut_1 {d : Nat} {L : List (Option MV)} {st : List MV} {u : Mem} {Q : Option MV → Mem → Prop} (h : go d Y_M_cut Q bk_M_cut_1 1 L st u) : RunB (d + 1) Y_M_cut 1 L st u Q := run_go ok_M_cut (by decide) h
theorem rb_M_cut_2 {d : Nat} {L : List (Option MV)} {st : List MV} {u : Mem} {Q : Option MV → Mem → Prop} (h : go d Y_M_cut Q bk_M_cut_2 2 L st u) : RunB (d + 1) Y_M_cut 2 L st u Q := run_go ok_M_cut (by decide) h
theorem rb_M_cut_3 {d : Nat} {L : List (Option MV)} {st : List MV} {u : Mem} {Q : Option MV → Mem → Prop} (h : go d Y_M_cut Q bk_M_cut_3 3 L st u) : RunB (d + 1) Y_M_cut 3 L st u Q := run_go ok_M_cut (by decide) h
def bk_M_lay_0 : List En := [(.iload_n 1, 1, 1, 0, [], g_0), (.invokestatic 79, 3, 1, 1, [841, 842, 0, 77, 843], g_M_isSheet), (.ifCond .eq 15, 3, 1, 0, [], g_0), (.iload_n 2, 1, 2, 0, [], g_0), (.i2l, 1, 0, 0, [], g_0), (.lconst 0, 1, 0, 0, [], g_0), (.ldc2_w 83, 3, 2, 0, [848], g_0), (.invokestatic 70, 3, 3, 1, [845, 846, 0, 77, 847], g_M_in), (.ifCond .ne 6, 3, 2, 0, [], g_0)]
def bk_M_lay_1 : List En := [(.bipush (-2), 2, 2, 1, [], g_0), (.ireturn, 1, 0, 0, [], g_0)]
def bk_M_lay_2 : List En := [(.aload_n 0, 1, 0, 0, [], g_0), (.iload_n 1, 1, 1, 0, [], g_0), (.iload_n 2, 1, 2, 0, [], g_0), (.iload_n 3, 1, 3, 0, [], g_0), (.invokevirtual 89, 3, 3, 8, [861, 863, 27, 77, 864], g_M_lacks), (.istore 5, 2, 5, 0, [], g_0), (.iload 5, 2, 5, 0, [], g_0), (.ifCond .eq 6, 3, 3, 0, [], g_0), (.iload 5, 2, 5, 0, [], g_0), (.ireturn, 1, 0, 0, [], g_0)]
def bk_M_lay_3 : List En := [(.aload_n 0, 1, 0, 0, [], g_0), (.getfield 16, 3, 8, 2, [754], g_0), (.bipush 60, 2, 60, 0, [], g_0), (.iload_n 1, 1, 1, 0, [], g_0), (.imul, 1, 0, 0, [], g_0), (.iload_n 3, 1, 3, 0, [], g_0), (.iadd, 1, 0, 0, [], g_0), (.iload_n 2, 1, 2, 0, [], g_0), (.iload 4, 2, 4, 0, [], g_0), (.invokestatic 93, 3, 2, 1, [865, 866, 0, 77, 867], g_M_cut), (.iastore, 1, 0, 0, [], g_0), (.iconst 1, 1, 1, 0, [], g_0), (.ireturn, 1, 0, 0, [], g_0)]
def cd_M_lay : Cd := [(0, bk_M_lay_0), (19, bk_M_lay_1), (22, bk_M_lay_2), (39, bk_M_lay_3), (58, [])]
def Y_M_lay : Mth := (g_M_lay, RM, cd_M_lay)
set_option maxRecDepth 20000 in
theorem ok_M_lay : okM Y_M_lay = true := by decide +kernel
theorem en_M_lay {d : Nat} {u : Mem} {Q : Option MV → Mem → Prop} (as : List MV) (hc : cats as ≤ 6) (h : RunB d Y_M_lay 0 (argL as 6) [] u Q) : OKm d g_M_lay as u Q := OKm.of (Y := Y_M_lay) ok_M_lay hc h
theorem rb_M_lay_0 {d : Nat} {L : List (Option MV)} {st : List MV} {u : Mem} {Q : Option MV → Mem → Prop} (h : go d Y_M_lay Q bk_M_lay_0 0 L st u) : RunB (d + 1) Y_M_lay 0 L st u Q := run_go ok_M_lay (by decide) h
theorem rb_M_lay_1 {d : Nat} {L : List (Option MV)} {st : List MV} {u : Mem} {Q : Option MV → Mem → Prop} (h : go d Y_M_lay Q bk_M_lay_1 1 L st u) : RunB (d + 1) Y_M_lay 1 L st u Q := run_go ok_M_lay (by decide) h
theorem rb_M_lay_2 {d : Nat} {L : List (Option MV)} {st : List MV} {u : Mem} {Q : Option MV → Mem → Prop} (h : go d Y_M_lay Q bk_M_lay_2 2 L st u) : RunB (d + 1) Y_M_lay 2 L st u Q := run_go ok_M_lay (by decide) h
theorem rb_M_lay_3 {d : Nat} {L : List (Option MV)} {st : List MV} {u : Mem} {Q : Option MV → Mem → Prop} (h : go d Y_M_lay Q bk_M_lay_3 3 L st u) : RunB (d + 1) Y_M_lay 3 L st u Q := run_go ok_M_lay (by decide) h
def bk_M_get_0 : List En := [(.iload_n 1, 1, 1, 0, [], g_0), (.invokestatic 79, 3, 1, 1, [841, 842, 0, 77, 843], g_M_isSheet), (.ifCond .eq 25, 3, 1, 0, [], g_0), (.iload_n 2, 1, 2, 0, [], g_0), (.i2l, 1, 0, 0, [], g_0), (.lconst 0, 1, 0, 0, [], g_0), (.ldc2_w 83, 3, 2, 0, [848], g_0), (.invokestatic 70, 3, 3, 1, [845, 846, 0, 77, 847], g_M_in), (.ifCond .eq 13, 3, 1, 0, [], g_0), (.aload_n 0, 1, 0, 0, [], g_0), (.iload_n 1, 1, 1, 0, [], g_0), (.iload_n 2, 1, 2, 0, [], g_0), (.iload_n 3, 1, 3, 0, [], g_0), (.invokevirtual 89, 3, 3, 8, [861, 863, 27, 77, 864], g_M_lacks), (.ifCond .eq 6, 3, 2, 0, [], g_0)]
def bk_M_get_1 : List En := [(.ldc 97, 2, 2147483648, 1, [872], g_0), (.ireturn, 1, 0, 0, [], g_0)]
def bk_M_get_2 : List En := [(.aload_n 0, 1, 0, 0, [], g_0), (.getfield 16, 3, 8, 2, [754], g_0), (.bipush 60, 2, 60, 0, [], g_0), (.iload_n 1, 1, 1, 0, [], g_0), (.imul, 1, 0, 0, [], g_0), (.iload_n 3, 1, 3, 0, [], g_0), (.iadd, 1, 0, 0, [], g_0), (.iaload, 1, 0, 0, [], g_0), (.ireturn, 1, 0, 0, [], g_0)]
def cd_M_get : Cd := [(0, bk_M_get_0), (29, bk_M_get_1), (32, bk_M_get_2), (44, [])]
def Y_M_get : Mth := (g_M_get, RM, cd_M_get)
set_option maxRecDepth 20000 in
theorem ok_M_get : okM Y_M_get = true := by decide +kernel
theorem en_M_get {d : Nat} {u : Mem} {Q : Option MV → Mem → Prop} (as : List MV) (hc : cats as ≤ 4) (h : RunB d Y_M_get 0 (argL as 4) [] u Q) : OKm d g_M_get as u Q := OKm.of (Y := Y_M_get) ok_M_get hc h
theorem rb_M_get_0 {d : Nat} {L : List (Option MV)} {st : List MV} {u : Mem} {Q : Option MV → Mem → Prop} (h : go d Y_M_get Q bk_M_get_0 0 L st u) : RunB (d + 1) Y_M_get 0 L st u Q := run_go ok_M_get (by decide) h
theorem rb_M_get_1 {d : Nat} {L : List (Option MV)} {st : List MV} {u : Mem} {Q : Option MV → Mem → Prop} (h : go d Y_M_get Q bk_M_get_1 1 L st u) : RunB (d + 1) Y_M_get 1 L st u Q := run_go ok_M_get (by decide) h
theorem rb_M_get_2 {d : Nat} {L : List (Option MV)} {st : List MV} {u : Mem} {Q : Option MV → Mem → Prop} (h : go d Y_M_get Q bk_M_get_2 2 L st u) : RunB (d + 1) Y_M_get 2 L st u Q := run_go ok_M_get (by decide) h
def bk_M_copy_0 : List En := [(.iload_n 1, 1, 1, 0, [], g_0), (.invokestatic 79, 3, 1, 1, [841, 842, 0, 77, 843], g_M_isSheet), (.ifCond .eq 10, 3, 1, 0, [], g_0), (.iload_n 3, 1, 3, 0, [], g_0), (.invokestatic 79, 3, 1, 1, [841, 842, 0, 77, 843], g_M_isSheet), (.ifCond .ne 6, 3, 2, 0, [], g_0)]
def bk_M_copy_1 : List En := [(.bipush (-2), 2, 2, 1, [], g_0), (.ireturn, 1, 0, 0, [], g_0)]
def bk_M_copy_2 : List En := [(.aload_n 0, 1, 0, 0, [], g_0), (.getfield 7, 3, 8, 0, [752], g_0), (.iload_n 1, 1, 1, 0, [], g_0), (.iaload, 1, 0, 0, [], g_0), (.ifCond .lt 12, 3, 3, 0, [], g_0), (.aload_n 0, 1, 0, 0, [], g_0), (.getfield 7, 3, 8, 0, [752], g_0), (.iload_n 3, 1, 3, 0, [], g_0), (.iaload, 1, 0, 0, [], g_0), (.ifCond .ge 9, 3, 4, 0, [], g_0)]
def bk_M_copy_3 : List En := [(.aload_n 0, 1, 0, 0, [], g_0), (.iconst 1, 1, 1, 0, [], g_0), (.invokevirtual 85, 3, 1, 8, [849, 851, 26, 77, 852], g_M_finds), (.ireturn, 1, 0, 0, [], g_0)]
def bk_M_copy_4 : List En := [(.aload_n 0, 1, 0, 0, [], g_0), (.getfield 7, 3, 8, 0, [752], g_0), (.iload_n 1, 1, 1, 0, [], g_0), (.iaload, 1, 0, 0, [], g_0), (.aload_n 0, 1, 0, 0, [], g_0), (.getfield 7, 3, 8, 0, [752], g_0), (.iload_n 3, 1, 3, 0, [], g_0), (.iaload, 1, 0, 0, [], g_0), (.if_icmp .eq 9, 3, 5, 0, [], g_0), (.aload_n 0, 1, 0, 0, [], g_0), (.iconst 4, 1, 4, 0, [], g_0), (.invokevirtual 85, 3, 1, 8, [849, 851, 26, 77, 852], g_M_finds), (.ireturn, 1, 0, 0, [], g_0)]
def bk_M_copy_5 : List En := [(.iload_n 2, 1, 2, 0, [], g_0), (.ifCond .lt 48, 3, 6, 0, [], g_0), (.iload 4, 2, 4, 0, [], g_0), (.ifCond .lt 43, 3, 6, 0, [], g_0), (.iload 5, 2, 5, 0, [], g_0), (.ifCond .lt 38, 3, 6, 0, [], g_0), (.iload_n 2, 1, 2, 0, [], g_0), (.i2l, 1, 0, 0, [], g_0), (.iload 5, 2, 5, 0, [], g_0), (.i2l, 1, 0, 0, [], g_0), (.ladd, 1, 0, 0, [], g_0), (.aload_n 0, 1, 0, 0, [], g_0), (.getfield 13, 3, 8, 1, [753], g_0), (.iload_n 1, 1, 1, 0, [], g_0), (.iaload, 1, 0, 0, [], g_0), (.i2l, 1, 0, 0, [], g_0), (.lcmp, 1, 0, 0, [], g_0), (.ifCond .gt 21, 3, 6, 0, [], g_0), (.iload 4, 2, 4, 0, [], g_0), (.i2l, 1, 0, 0, [], g_0), (.iload 5, 2, 5, 0, [], g_0), (.i2l, 1, 0, 0, [], g_0), (.ladd, 1, 0, 0, [], g_0), (.aload_n 0, 1, 0, 0, [], g_0), (.getfield 13, 3, 8, 1, [753], g_0), (.iload_n 3, 1, 3, 0, [], g_0), (.iaload, 1, 0, 0, [], g_0), (.i2l, 1, 0, 0, [], g_0), (.lcmp, 1, 0, 0, [], g_0), (.ifCond .le 9, 3, 7, 0, [], g_0)]
def bk_M_copy_6 : List En := [(.aload_n 0, 1, 0, 0, [], g_0), (.iconst 2, 1, 2, 0, [], g_0), (.invokevirtual 85, 3, 1, 8, [849, 851, 26, 77, 852], g_M_finds), (.ireturn, 1, 0, 0, [], g_0)]
def bk_M_copy_7 : List En := [(.iconst 0, 1, 0, 0, [], g_0), (.istore 6, 2, 6, 0, [], g_0)]
def bk_M_copy_8 : List En := [(.iload 6, 2, 6, 0, [], g_0), (.iload 5, 2, 5, 0, [], g_0), (.if_icmp .ge 30, 3, 9, 0, [], g_0), (.aload_n 0, 1, 0, 0, [], g_0), (.getfield 19, 3, 8, 3, [755], g_0), (.iload 6, 2, 6, 0, [], g_0), (.aload_n 0, 1, 0, 0, [], g_0), (.getfield 16, 3, 8, 2, [754], g_0), (.bipush 60, 2, 60, 0, [], g_0), (.iload_n 1, 1, 1, 0, [], g_0), (.imul, 1, 0, 0, [], g_0), (.iload_n 2, 1, 2, 0, [], g_0), (.iadd, 1, 0, 0, [], g_0), (.iload 6, 2, 6, 0, [], g_0), (.iadd, 1, 0, 0, [], g_0), (.iaload, 1, 0, 0, [], g_0), (.iastore, 1, 0, 0, [], g_0), (.iinc 6 1, 3, 6, 1, [0], g_0), (.goto (-31), 3, 8, 0, [], g_0)]
def bk_M_copy_9 : List En := [(.iconst 0, 1, 0, 0, [], g_0), (.istore 6, 2, 6, 0, [], g_0)]
def bk_M_copy_10 : List En := [(.iload 6, 2, 6, 0, [], g_0), (.iload 5, 2, 5, 0, [], g_0), (.if_icmp .ge 31, 3, 11, 0, [], g_0), (.aload_n 0, 1, 0, 0, [], g_0), (.getfield 16, 3, 8, 2, [754], g_0), (.bipush 60, 2, 60, 0, [], g_0), (.iload_n 3, 1, 3, 0, [], g_0), (.imul, 1, 0, 0, [], g_0), (.iload 4, 2, 4, 0, [], g_0), (.iadd, 1, 0, 0, [], g_0), (.iload 6, 2, 6, 0, [], g_0), (.iadd, 1, 0, 0, [], g_0), (.aload_n 0, 1, 0, 0, [], g_0), (.getfield 19, 3, 8, 3, [755], g_0), (.iload 6, 2, 6, 0, [], g_0), (.iaload, 1, 0, 0, [], g_0), (.iastore, 1, 0, 0, [], g_0), (.iinc 6 1, 3, 6, 1, [0], g_0), (.goto (-32), 3, 10, 0, [], g_0)]
def bk_M_copy_11 : List En := [(.iconst 1, 1, 1, 0, [], g_0), (.ireturn, 1, 0, 0, [], g_0)]
def cd_M_copy : Cd := [(0, bk_M_copy_0), (14, bk_M_copy_1), (17, bk_M_copy_2), (35, bk_M_copy_3), (41, bk_M_copy_4), (62, bk_M_copy_5), (111, bk_M_copy_6), (117, bk_M_copy_7), (120, bk_M_copy_8), (154, bk_M_copy_9), (157, bk_M_copy_10), (192, bk_M_copy_11), (194, [])]
def Y_M_copy : Mth := (g_M_copy, RM, cd_M_copy)
set_option maxRecDepth 20000 in
theorem ok_M_copy : okM Y_M_copy = true := by decide +kernel
theorem en_M_copy {d : Nat} {u : Mem} {Q : Option MV → Mem → Prop} (as : List MV) (hc : cats as ≤ 7) (h : RunB d Y_M_copy 0 (argL as 7) [] u Q) : OKm d g_M_copy as u Q := OKm.of (Y := Y_M_copy) ok_M_copy hc h
theorem rb_M_copy_0 {d : Nat} {L : List (Option MV)} {st : List MV} {u : Mem} {Q : Option MV → Mem → Prop} (h : go d Y_M_copy Q bk_M_copy_0 0 L st u) : RunB (d + 1) Y_M_copy 0 L st u Q := run_go ok_M_copy (by decide) h
theorem rb_M_copy_1 {d : Nat} {L : List (Option MV)} {st : List MV} {u : Mem} {Q : Option MV → Mem → Prop} (h : go d Y_M_copy Q bk_M_copy_1 1 L st u) : RunB (d + 1) Y_M_copy 1 L st u Q := run_go ok_M_copy (by decide) h
theorem rb_M_copy_2 {d : Nat} {L : List (Option MV)} {st : List MV} {u : Mem} {Q : Option MV → Mem → Prop} (h : go d Y_M_copy Q bk_M_copy_2 2 L st u) : RunB (d + 1) Y_M_copy 2 L st u Q := run_go ok_M_copy (by decide) h
theorem rb_M_copy_3 {d : Nat} {L : List (Option MV)} {st : List MV} {u : Mem} {Q : Option MV → Mem → Prop} (h : go d Y_M_copy Q bk_M_copy_3 3 L st u) : RunB (d + 1) Y_M_copy 3 L st u Q := run_go ok_M_copy (by decide) h
theorem rb_M_copy_4 {d : Nat} {L : List (Option MV)} {st : List MV} {u : Mem} {Q : Option MV → Mem → Prop} (h : go d Y_M_copy Q bk_M_copy_4 4 L st u) : RunB (d + 1) Y_M_copy 4 L st u Q := run_go ok_M_copy (by decide) h
theorem rb_M_copy_5 {d : Nat} {L : List (Option MV)} {st : List MV} {u : Mem} {Q : Option MV → Mem → Prop} (h : go d Y_M_copy Q bk_M_copy_5 5 L st u) : RunB (d + 1) Y_M_copy 5 L st u Q := run_go ok_M_copy (by decide) h
theorem rb_M_copy_6 {d : Nat} {L : List (Option MV)} {st : List MV} {u : Mem} {Q : Option MV → Mem → Prop} (h : go d Y_M_copy Q bk_M_copy_6 6 L st u) : RunB (d + 1) Y_M_copy 6 L st u Q := run_go ok_M_copy (by decide) h
theorem rb_M_copy_7 {d : Nat} {L : List (Option MV)} {st : List MV} {u : Mem} {Q : Option MV → Mem → Prop} (h : go d Y_M_copy Q bk_M_copy_7 7 L st u) : RunB (d + 1) Y_M_copy 7 L st u Q := run_go ok_M_copy (by decide) h
theorem rb_M_copy_8 {d : Nat} {L : List (Option MV)} {st : List MV} {u : Mem} {Q : Option MV → Mem → Prop} (h : go d Y_M_copy Q bk_M_copy_8 8 L st u) : RunB (d + 1) Y_M_copy 8 L st u Q := run_go ok_M_copy (by decide) h
theorem rb_M_copy_9 {d : Nat} {L : List (Option MV)} {st : List MV} {u : Mem} {Q : Option MV → Mem → Prop} (h : go d Y_M_copy Q bk_M_copy_9 9 L st u) : RunB (d + 1) Y_M_copy 9 L st u Q := run_go ok_M_copy (by decide) h
theorem rb_M_copy_10 {d : Nat} {L : List (Option MV)} {st : List MV} {u : Mem} {Q : Option MV → Mem → Prop} (h : go d Y_M_copy Q bk_M_copy_10 10 L st u) : RunB (d + 1) Y_M_copy 10 L st u Q := run_go ok_M_copy (by decide) h
theorem rb_M_copy_11 {d : Nat} {L : List (Option MV)} {st : List MV} {u : Mem} {Q : Option MV → Mem → Prop} (h : go d Y_M_copy Q bk_M_copy_11 11 L st u) : RunB (d + 1) Y_M_copy 11 L st u Q := run_go ok_M_copy (by decide) h
end
section
def bk_M_isText_0 : List En := [(.iload_n 0, 1, 0, 0, [], g_0), (.i2l, 1, 0, 0, [], g_0), (.lconst 0, 1, 0, 0, [], g_0), (.ldc2_w 83, 3, 2, 0, [848], g_0), (.invokestatic 70, 3, 3, 1, [845, 846, 0, 77, 847], g_M_in), (.ireturn, 1, 0, 1, [], g_0)]
def cd_M_isText : Cd := [(0, bk_M_isText_0), (10, [])]
def Y_M_isText : Mth := (g_M_isText, RM, cd_M_isText)
set_option maxRecDepth 20000 in
theorem ok_M_isText : okM Y_M_isText = true := by decide +kernel
theorem en_M_isText {d : Nat} {u : Mem} {Q : Option MV → Mem → Prop} (as : List MV) (hc : cats as ≤ 1) (h : RunB d Y_M_isText 0 (argL as 1) [] u Q) : OKm d g_M_isText as u Q := OKm.of (Y := Y_M_isText) ok_M_isText hc h
theorem rb_M_isText_0 {d : Nat} {L : List (Option MV)} {st : List MV} {u : Mem} {Q : Option MV → Mem → Prop} (h : go d Y_M_isText Q bk_M_isText_0 0 L st u) : RunB (d + 1) Y_M_isText 0 L st u Q := run_go ok_M_isText (by decide) h
def bk_M_type_0 : List En := [(.iload_n 1, 1, 1, 0, [], g_0), (.invokestatic 98, 3, 1, 1, [881, 882, 0, 77, 883], g_M_isText), (.ifCond .eq 15, 3, 1, 0, [], g_0), (.iload_n 2, 1, 2, 0, [], g_0), (.i2l, 1, 0, 0, [], g_0), (.lconst 0, 1, 0, 0, [], g_0), (.ldc2_w 101, 3, 255, 0, [884], g_0), (.invokestatic 70, 3, 3, 1, [845, 846, 0, 77, 847], g_M_in), (.ifCond .ne 6, 3, 2, 0, [], g_0)]
def bk_M_type_1 : List En := [(.bipush (-2), 2, 2, 1, [], g_0), (.ireturn, 1, 0, 0, [], g_0)]
def bk_M_type_2 : List En := [(.aload_n 0, 1, 0, 0, [], g_0), (.getfield 25, 3, 8, 6, [758], g_0), (.iload_n 1, 1, 1, 0, [], g_0), (.iaload, 1, 0, 0, [], g_0), (.iload_n 1, 1, 1, 0, [], g_0), (.ifCond .ne 8, 3, 3, 0, [], g_0), (.bipush 79, 2, 79, 0, [], g_0), (.goto 15, 3, 5, 0, [], g_0)]
def bk_M_type_3 : List En := [(.iload_n 1, 1, 1, 0, [], g_0), (.iconst 1, 1, 1, 0, [], g_0), (.if_icmp .ne 8, 3, 4, 0, [], g_0), (.bipush 20, 2, 20, 0, [], g_0), (.goto 5, 3, 5, 0, [], g_0)]
def bk_M_type_4 : List En := [(.bipush 6, 2, 6, 0, [], g_0)]
def bk_M_type_5 : List En := [(.if_icmp .ne 6, 3, 6, 0, [], g_0), (.bipush (-4), 2, 4, 1, [], g_0), (.ireturn, 1, 0, 0, [], g_0)]
def bk_M_type_6 : List En := [(.aload_n 0, 1, 0, 0, [], g_0), (.getfield 22, 3, 8, 5, [757], g_0), (.bipush 80, 2, 80, 0, [], g_0), (.iload_n 1, 1, 1, 0, [], g_0), (.imul, 1, 0, 0, [], g_0), (.aload_n 0, 1, 0, 0, [], g_0), (.getfield 25, 3, 8, 6, [758], g_0), (.iload_n 1, 1, 1, 0, [], g_0), (.iaload, 1, 0, 0, [], g_0), (.iadd, 1, 0, 0, [], g_0), (.iload_n 2, 1, 2, 0, [], g_0), (.iastore, 1, 0, 0, [], g_0), (.aload_n 0, 1, 0, 0, [], g_0), (.getfield 25, 3, 8, 6, [758], g_0), (.iload_n 1, 1, 1, 0, [], g_0), (.dup2, 1, 0, 0, [], g_0), (.iaload, 1, 0, 0, [], g_0), (.iconst 1, 1, 1, 0, [], g_0), (.iadd, 1, 0, 0, [], g_0), (.iastore, 1, 0, 0, [], g_0), (.aload_n 0, 1, 0, 0, [], g_0), (.getfield 25, 3, 8, 6, [758], g_0), (.iload_n 1, 1, 1, 0, [], g_0), (.iaload, 1, 0, 0, [], g_0), (.ireturn, 1, 0, 0, [], g_0)]
def cd_M_type : Cd := [(0, bk_M_type_0), (19, bk_M_type_1), (22, bk_M_type_2), (37, bk_M_type_3), (47, bk_M_type_4), (49, bk_M_type_5), (55, bk_M_type_6), (89, [])]
def Y_M_type : Mth := (g_M_type, RM, cd_M_type)
set_option maxRecDepth 20000 in
theorem ok_M_type : okM Y_M_type = true := by decide +kernel
theorem en_M_type {d : Nat} {u : Mem} {Q : Option MV → Mem → Prop} (as : List MV) (hc : cats as ≤ 3) (h : RunB d Y_M_type 0 (argL as 3) [] u Q) : OKm d g_M_type as u Q := OKm.of (Y := Y_M_type) ok_M_type hc h
theorem rb_M_type_0 {d : Nat} {L : List (Option MV)} {st : List MV} {u : Mem} {Q : Option MV → Mem → Prop} (h : go d Y_M_type Q bk_M_type_0 0 L st u) : RunB (d + 1) Y_M_type 0 L st u Q := run_go ok_M_type (by decide) h
theorem rb_M_type_1 {d : Nat} {L : List (Option MV)} {st : List MV} {u : Mem} {Q : Option MV → Mem → Prop} (h : go d Y_M_type Q bk_M_type_1 1 L st u) : RunB (d + 1) Y_M_type 1 L st u Q := run_go ok_M_type (by decide) h
theorem rb_M_type_2 {d : Nat} {L : List (Option MV)} {st : List MV} {u : Mem} {Q : Option MV → Mem → Prop} (h : go d Y_M_type Q bk_M_type_2 2 L st u) : RunB (d + 1) Y_M_type 2 L st u Q := run_go ok_M_type (by decide) h
theorem rb_M_type_3 {d : Nat} {L : List (Option MV)} {st : List MV} {u : Mem} {Q : Option MV → Mem → Prop} (h : go d Y_M_type Q bk_M_type_3 3 L st u) : RunB (d + 1) Y_M_type 3 L st u Q := run_go ok_M_type (by decide) h
theorem rb_M_type_4 {d : Nat} {L : List (Option MV)} {st : List MV} {u : Mem} {Q : Option MV → Mem → Prop} (h : go d Y_M_type Q bk_M_type_4 4 L st u) : RunB (d + 1) Y_M_type 4 L st u Q := run_go ok_M_type (by decide) h
theorem rb_M_type_5 {d : Nat} {L : List (Option MV)} {st : List MV} {u : Mem} {Q : Option MV → Mem → Prop} (h : go d Y_M_type Q bk_M_type_5 5 L st u) : RunB (d + 1) Y_M_type 5 L st u Q := run_go ok_M_type (by decide) h
theorem rb_M_type_6 {d : Nat} {L : List (Option MV)} {st : List MV} {u : Mem} {Q : Option MV → Mem → Prop} (h : go d Y_M_type Q bk_M_type_6 6 L st u) : RunB (d + 1) Y_M_type 6 L st u Q := run_go ok_M_type (by decide) h
def bk_M_wipe_0 : List En := [(.iload_n 1, 1, 1, 0, [], g_0), (.invokestatic 98, 3, 1, 1, [881, 882, 0, 77, 883], g_M_isText), (.ifCond .ne 6, 3, 1, 0, [], g_0), (.bipush (-2), 2, 2, 1, [], g_0), (.ireturn, 1, 0, 0, [], g_0)]
def bk_M_wipe_1 : List En := [(.aload_n 0, 1, 0, 0, [], g_0), (.getfield 25, 3, 8, 6, [758], g_0), (.iload_n 1, 1, 1, 0, [], g_0), (.iaload, 1, 0, 0, [], g_0), (.istore_n 2, 1, 2, 0, [], g_0), (.aload_n 0, 1, 0, 0, [], g_0), (.getfield 25, 3, 8, 6, [758], g_0), (.iload_n 1, 1, 1, 0, [], g_0), (.iconst 0, 1, 0, 0, [], g_0), (.iastore, 1, 0, 0, [], g_0), (.iload_n 2, 1, 2, 0, [], g_0), (.ireturn, 1, 0, 0, [], g_0)]
def cd_M_wipe : Cd := [(0, bk_M_wipe_0), (10, bk_M_wipe_1), (26, [])]
def Y_M_wipe : Mth := (g_M_wipe, RM, cd_M_wipe)
set_option maxRecDepth 20000 in
theorem ok_M_wipe : okM Y_M_wipe = true := by decide +kernel
theorem en_M_wipe {d : Nat} {u : Mem} {Q : Option MV → Mem → Prop} (as : List MV) (hc : cats as ≤ 3) (h : RunB d Y_M_wipe 0 (argL as 3) [] u Q) : OKm d g_M_wipe as u Q := OKm.of (Y := Y_M_wipe) ok_M_wipe hc h
theorem rb_M_wipe_0 {d : Nat} {L : List (Option MV)} {st : List MV} {u : Mem} {Q : Option MV → Mem → Prop} (h : go d Y_M_wipe Q bk_M_wipe_0 0 L st u) : RunB (d + 1) Y_M_wipe 0 L st u Q := run_go ok_M_wipe (by decide) h
theorem rb_M_wipe_1 {d : Nat} {L : List (Option MV)} {st : List MV} {u : Mem} {Q : Option MV → Mem → Prop} (h : go d Y_M_wipe Q bk_M_wipe_1 1 L st u) : RunB (d + 1) Y_M_wipe 1 L st u Q := run_go ok_M_wipe (by decide) h
def bk_M_undo_0 : List En := [(.iload_n 1, 1, 1, 0, [], g_0), (.invokestatic 98, 3, 1, 1, [881, 882, 0, 77, 883], g_M_isText), (.ifCond .ne 6, 3, 1, 0, [], g_0), (.bipush (-2), 2, 2, 1, [], g_0), (.ireturn, 1, 0, 0, [], g_0)]
def bk_M_undo_1 : List En := [(.aload_n 0, 1, 0, 0, [], g_0), (.getfield 25, 3, 8, 6, [758], g_0), (.iload_n 1, 1, 1, 0, [], g_0), (.iaload, 1, 0, 0, [], g_0), (.ifCond .ne 6, 3, 2, 0, [], g_0), (.bipush (-3), 2, 3, 1, [], g_0), (.ireturn, 1, 0, 0, [], g_0)]
def bk_M_undo_2 : List En := [(.aload_n 0, 1, 0, 0, [], g_0), (.getfield 25, 3, 8, 6, [758], g_0), (.iload_n 1, 1, 1, 0, [], g_0), (.dup2, 1, 0, 0, [], g_0), (.iaload, 1, 0, 0, [], g_0), (.iconst 1, 1, 1, 0, [], g_0), (.isub, 1, 0, 0, [], g_0), (.iastore, 1, 0, 0, [], g_0), (.aload_n 0, 1, 0, 0, [], g_0), (.getfield 25, 3, 8, 6, [758], g_0), (.iload_n 1, 1, 1, 0, [], g_0), (.iaload, 1, 0, 0, [], g_0), (.ireturn, 1, 0, 0, [], g_0)]
def cd_M_undo : Cd := [(0, bk_M_undo_0), (10, bk_M_undo_1), (22, bk_M_undo_2), (39, [])]
def Y_M_undo : Mth := (g_M_undo, RM, cd_M_undo)
set_option maxRecDepth 20000 in
theorem ok_M_undo : okM Y_M_undo = true := by decide +kernel
theorem en_M_undo {d : Nat} {u : Mem} {Q : Option MV → Mem → Prop} (as : List MV) (hc : cats as ≤ 2) (h : RunB d Y_M_undo 0 (argL as 2) [] u Q) : OKm d g_M_undo as u Q := OKm.of (Y := Y_M_undo) ok_M_undo hc h
theorem rb_M_undo_0 {d : Nat} {L : List (Option MV)} {st : List MV} {u : Mem} {Q : Option MV → Mem → Prop} (h : go d Y_M_undo Q bk_M_undo_0 0 L st u) : RunB (d + 1) Y_M_undo 0 L st u Q := run_go ok_M_undo (by decide) h
theorem rb_M_undo_1 {d : Nat} {L : List (Option MV)} {st : List MV} {u : Mem} {Q : Option MV → Mem → Prop} (h : go d Y_M_undo Q bk_M_undo_1 1 L st u) : RunB (d + 1) Y_M_undo 1 L st u Q := run_go ok_M_undo (by decide) h
theorem rb_M_undo_2 {d : Nat} {L : List (Option MV)} {st : List MV} {u : Mem} {Q : Option MV → Mem → Prop} (h : go d Y_M_undo Q bk_M_undo_2 2 L st u) : RunB (d + 1) Y_M_undo 2 L st u Q := run_go ok_M_undo (by decide) h
def bk_M_figureOf_0 : List En := [(.iload_n 0, 1, 0, 0, [], g_0), (.i2l, 1, 0, 0, [], g_0), (.bipush 48, 2, 48, 0, [], g_0), (.iload_n 1, 1, 1, 0, [], g_0), (.iadd, 1, 0, 0, [], g_0), (.i2l, 1, 0, 0, [], g_0), (.bipush 48, 2, 48, 0, [], g_0), (.iload_n 2, 1, 2, 0, [], g_0), (.iadd, 1, 0, 0, [], g_0), (.i2l, 1, 0, 0, [], g_0), (.invokestatic 70, 3, 3, 1, [845, 846, 0, 77, 847], g_M_in), (.ifCond .eq 10, 3, 1, 0, [], g_0), (.iload_n 0, 1, 0, 0, [], g_0), (.bipush 48, 2, 48, 0, [], g_0), (.isub, 1, 0, 0, [], g_0), (.goto 5, 3, 2, 0, [], g_0)]
def bk_M_figureOf_1 : List En := [(.bipush (-9), 2, 9, 1, [], g_0)]
def bk_M_figureOf_2 : List En := [(.ireturn, 1, 0, 0, [], g_0)]
def cd_M_figureOf : Cd := [(0, bk_M_figureOf_0), (25, bk_M_figureOf_1), (27, bk_M_figureOf_2), (28, [])]
def Y_M_figureOf : Mth := (g_M_figureOf, RM, cd_M_figureOf)
set_option maxRecDepth 20000 in
theorem ok_M_figureOf : okM Y_M_figureOf = true := by decide +kernel
theorem en_M_figureOf {d : Nat} {u : Mem} {Q : Option MV → Mem → Prop} (as : List MV) (hc : cats as ≤ 3) (h : RunB d Y_M_figureOf 0 (argL as 3) [] u Q) : OKm d g_M_figureOf as u Q := OKm.of (Y := Y_M_figureOf) ok_M_figureOf hc h
theorem rb_M_figureOf_0 {d : Nat} {L : List (Option MV)} {st : List MV} {u : Mem} {Q : Option MV → Mem → Prop} (h : go d Y_M_figureOf Q bk_M_figureOf_0 0 L st u) : RunB (d + 1) Y_M_figureOf 0 L st u Q := run_go ok_M_figureOf (by decide) h
theorem rb_M_figureOf_1 {d : Nat} {L : List (Option MV)} {st : List MV} {u : Mem} {Q : Option MV → Mem → Prop} (h : go d Y_M_figureOf Q bk_M_figureOf_1 1 L st u) : RunB (d + 1) Y_M_figureOf 1 L st u Q := run_go ok_M_figureOf (by decide) h
theorem rb_M_figureOf_2 {d : Nat} {L : List (Option MV)} {st : List MV} {u : Mem} {Q : Option MV → Mem → Prop} (h : go d Y_M_figureOf Q bk_M_figureOf_2 2 L st u) : RunB (d + 1) Y_M_figureOf 2 L st u Q := run_go ok_M_figureOf (by decide) h
def bk_M_headOf_0 : List En := [(.iload_n 0, 1, 0, 0, [], g_0), (.tableswitch 86 0 3 #[31, 38, 46, 53], 31, 9, 0, [1, 2, 3, 4], g_0)]
def bk_M_headOf_1 : List En := [(.iload_n 1, 1, 1, 0, [], g_0), (.iconst 0, 1, 0, 0, [], g_0), (.iconst 1, 1, 1, 0, [], g_0), (.invokestatic 103, 3, 3, 1, [910, 911, 0, 77, 912], g_M_figureOf), (.ireturn, 1, 0, 0, [], g_0)]
def bk_M_headOf_2 : List En := [(.iload_n 1, 1, 1, 0, [], g_0), (.iconst 0, 1, 0, 0, [], g_0), (.bipush 9, 2, 9, 0, [], g_0), (.invokestatic 103, 3, 3, 1, [910, 911, 0, 77, 912], g_M_figureOf), (.ireturn, 1, 0, 0, [], g_0)]
def bk_M_headOf_3 : List En := [(.iload_n 1, 1, 1, 0, [], g_0), (.iconst 0, 1, 0, 0, [], g_0), (.iconst 5, 1, 5, 0, [], g_0), (.invokestatic 103, 3, 3, 1, [910, 911, 0, 77, 912], g_M_figureOf), (.ireturn, 1, 0, 0, [], g_0)]
def bk_M_headOf_4 : List En := [(.iload_n 1, 1, 1, 0, [], g_0), (.bipush 114, 2, 114, 0, [], g_0), (.if_icmp .ne 7, 3, 5, 0, [], g_0), (.iconst 0, 1, 0, 0, [], g_0), (.goto 25, 3, 8, 0, [], g_0)]
def bk_M_headOf_5 : List En := [(.iload_n 1, 1, 1, 0, [], g_0), (.bipush 121, 2, 121, 0, [], g_0), (.if_icmp .ne 7, 3, 6, 0, [], g_0), (.iconst 1, 1, 1, 0, [], g_0), (.goto 15, 3, 8, 0, [], g_0)]
def bk_M_headOf_6 : List En := [(.iload_n 1, 1, 1, 0, [], g_0), (.bipush 107, 2, 107, 0, [], g_0), (.if_icmp .ne 7, 3, 7, 0, [], g_0), (.iconst 2, 1, 2, 0, [], g_0), (.goto 5, 3, 8, 0, [], g_0)]
def bk_M_headOf_7 : List En := [(.bipush (-9), 2, 9, 1, [], g_0)]
def bk_M_headOf_8 : List En := [(.ireturn, 1, 0, 0, [], g_0)]
def bk_M_headOf_9 : List En := [(.iload_n 1, 1, 1, 0, [], g_0), (.iconst 1, 1, 1, 0, [], g_0), (.bipush 9, 2, 9, 0, [], g_0), (.invokestatic 103, 3, 3, 1, [910, 911, 0, 77, 912], g_M_figureOf), (.ireturn, 1, 0, 0, [], g_0)]
def cd_M_headOf : Cd := [(0, bk_M_headOf_0), (32, bk_M_headOf_1), (39, bk_M_headOf_2), (47, bk_M_headOf_3), (54, bk_M_headOf_4), (64, bk_M_headOf_5), (74, bk_M_headOf_6), (84, bk_M_headOf_7), (86, bk_M_headOf_8), (87, bk_M_headOf_9), (95, [])]
def Y_M_headOf : Mth := (g_M_headOf, RM, cd_M_headOf)
set_option maxRecDepth 20000 in
theorem ok_M_headOf : okM Y_M_headOf = true := by decide +kernel
theorem en_M_headOf {d : Nat} {u : Mem} {Q : Option MV → Mem → Prop} (as : List MV) (hc : cats as ≤ 2) (h : RunB d Y_M_headOf 0 (argL as 2) [] u Q) : OKm d g_M_headOf as u Q := OKm.of (Y := Y_M_headOf) ok_M_headOf hc h
theorem rb_M_headOf_0 {d : Nat} {L : List (Option MV)} {st : List MV} {u : Mem} {Q : Option MV → Mem → Prop} (h : go d Y_M_headOf Q bk_M_headOf_0 0 L st u) : RunB (d + 1) Y_M_headOf 0 L st u Q := run_go ok_M_headOf (by decide) h
theorem rb_M_headOf_1 {d : Nat} {L : List (Option MV)} {st : List MV} {u : Mem} {Q : Option MV → Mem → Prop} (h : go d Y_M_headOf Q bk_M_headOf_1 1 L st u) : RunB (d + 1) Y_M_headOf 1 L st u Q := run_go ok_M_headOf (by decide) h
theorem rb_M_headOf_2 {d : Nat} {L : List (Option MV)} {st : List MV} {u : Mem} {Q : Option MV → Mem → Prop} (h : go d Y_M_headOf Q bk_M_headOf_2 2 L st u) : RunB (d + 1) Y_M_headOf 2 L st u Q := run_go ok_M_headOf (by decide) h
theorem rb_M_headOf_3 {d : Nat} {L : List (Option MV)} {st : List MV} {u : Mem} {Q : Option MV → Mem → Prop} (h : go d Y_M_headOf Q bk_M_headOf_3 3 L st u) : RunB (d + 1) Y_M_headOf 3 L st u Q := run_go ok_M_headOf (by decide) h
theorem rb_M_headOf_4 {d : Nat} {L : List (Option MV)} {st : List MV} {u : Mem} {Q : Option MV → Mem → Prop} (h : go d Y_M_headOf Q bk_M_headOf_4 4 L st u) : RunB (d + 1) Y_M_headOf 4 L st u Q := run_go ok_M_headOf (by decide) h
theorem rb_M_headOf_5 {d : Nat} {L : List (Option MV)} {st : List MV} {u : Mem} {Q : Option MV → Mem → Prop} (h : go d Y_M_headOf Q bk_M_headOf_5 5 L st u) : RunB (d + 1) Y_M_headOf 5 L st u Q := run_go ok_M_headOf (by decide) h
theorem rb_M_headOf_6 {d : Nat} {L : List (Option MV)} {st : List MV} {u : Mem} {Q : Option MV → Mem → Prop} (h : go d Y_M_headOf Q bk_M_headOf_6 6 L st u) : RunB (d + 1) Y_M_headOf 6 L st u Q := run_go ok_M_headOf (by decide) h
theorem rb_M_headOf_7 {d : Nat} {L : List (Option MV)} {st : List MV} {u : Mem} {Q : Option MV → Mem → Prop} (h : go d Y_M_headOf Q bk_M_headOf_7 7 L st u) : RunB (d + 1) Y_M_headOf 7 L st u Q := run_go ok_M_headOf (by decide) h
theorem rb_M_headOf_8 {d : Nat} {L : List (Option MV)} {st : List MV} {u : Mem} {Q : Option MV → Mem → Prop} (h : go d Y_M_headOf Q bk_M_headOf_8 8 L st u) : RunB (d + 1) Y_M_headOf 8 L st u Q := run_go ok_M_headOf (by decide) h
theorem rb_M_headOf_9 {d : Nat} {L : List (Option MV)} {st : List MV} {u : Mem} {Q : Option MV → Mem → Prop} (h : go d Y_M_headOf Q bk_M_headOf_9 9 L st u) : RunB (d + 1) Y_M_headOf 9 L st u Q := run_go ok_M_headOf (by decide) h
def bk_M_readsPosters_0 : List En := [(.aload_n 0, 1, 0, 0, [], g_0), (.iconst 0, 1, 0, 0, [], g_0), (.putfield 106, 3, 8, 7, [759], g_0), (.aload_n 0, 1, 0, 0, [], g_0), (.getfield 25, 3, 8, 6, [758], g_0), (.iconst 0, 1, 0, 0, [], g_0), (.iaload, 1, 0, 0, [], g_0), (.istore_n 1, 1, 1, 0, [], g_0), (.iconst 0, 1, 0, 0, [], g_0), (.istore_n 2, 1, 2, 0, [], g_0), (.iconst 0, 1, 0, 0, [], g_0), (.istore_n 3, 1, 3, 0, [], g_0)]
def bk_M_readsPosters_1 : List En := [(.iload_n 3, 1, 3, 0, [], g_0), (.iload_n 1, 1, 1, 0, [], g_0), (.if_icmp .ge 248, 3, 17, 0, [], g_0), (.aload_n 0, 1, 0, 0, [], g_0), (.getfield 22, 3, 8, 5, [757], g_0), (.iload_n 3, 1, 3, 0, [], g_0), (.iaload, 1, 0, 0, [], g_0), (.istore 4, 2, 4, 0, [], g_0), (.iload_n 2, 1, 2, 0, [], g_0), (.iconst 4, 1, 4, 0, [], g_0), (.if_icmp .le 7, 3, 2, 0, [], g_0), (.iconst 1, 1, 1, 0, [], g_0), (.goto 4, 3, 3, 0, [], g_0)]
def bk_M_readsPosters_2 : List En := [(.iconst 0, 1, 0, 0, [], g_0)]
def bk_M_readsPosters_3 : List En := [(.istore 5, 2, 5, 0, [], g_0), (.iload 5, 2, 5, 0, [], g_0), (.ifCond .eq 37, 3, 5, 0, [], g_0), (.iload 4, 2, 4, 0, [], g_0), (.i2l, 1, 0, 0, [], g_0), (.ldc2_w 109, 3, 97, 0, [905], g_0), (.ldc2_w 111, 3, 104, 0, [906], g_0), (.invokestatic 70, 3, 3, 1, [845, 846, 0, 77, 847], g_M_in), (.ifCond .eq 17, 3, 4, 0, [], g_0), (.iload_n 2, 1, 2, 0, [], g_0), (.bipush 9, 2, 9, 0, [], g_0), (.if_icmp .ge 11, 3, 4, 0, [], g_0), (.iload 4, 2, 4, 0, [], g_0), (.bipush 97, 2, 97, 0, [], g_0), (.isub, 1, 0, 0, [], g_0), (.goto 28, 3, 7, 0, [], g_0)]
def bk_M_readsPosters_4 : List En := [(.bipush (-9), 2, 9, 1, [], g_0), (.goto 23, 3, 7, 0, [], g_0)]
def bk_M_readsPosters_5 : List En := [(.aload_n 0, 1, 0, 0, [], g_0), (.getfield 106, 3, 8, 7, [759], g_0), (.bipush 8, 2, 8, 0, [], g_0), (.if_icmp .ge 12, 3, 6, 0, [], g_0), (.iload_n 2, 1, 2, 0, [], g_0), (.iload 4, 2, 4, 0, [], g_0), (.invokestatic 113, 3, 2, 1, [907, 908, 0, 77, 909], g_M_headOf), (.goto 5, 3, 7, 0, [], g_0)]
def bk_M_readsPosters_6 : List En := [(.bipush (-9), 2, 9, 1, [], g_0)]
def bk_M_readsPosters_7 : List En := [(.istore 6, 2, 6, 0, [], g_0), (.iload_n 2, 1, 2, 0, [], g_0), (.iconst 5, 1, 5, 0, [], g_0), (.if_icmp .le 14, 3, 8, 0, [], g_0), (.iload 4, 2, 4, 0, [], g_0), (.bipush 59, 2, 59, 0, [], g_0), (.if_icmp .ne 7, 3, 8, 0, [], g_0), (.iconst 1, 1, 1, 0, [], g_0), (.goto 4, 3, 9, 0, [], g_0)]
def bk_M_readsPosters_8 : List En := [(.iconst 0, 1, 0, 0, [], g_0)]
def bk_M_readsPosters_9 : List En := [(.istore 7, 2, 7, 0, [], g_0), (.iload 6, 2, 6, 0, [], g_0), (.bipush (-9), 2, 9, 1, [], g_0), (.if_icmp .ne 15, 3, 10, 0, [], g_0), (.iload 7, 2, 7, 0, [], g_0), (.ifCond .ne 10, 3, 10, 0, [], g_0), (.aload_n 0, 1, 0, 0, [], g_0), (.iconst 0, 1, 0, 0, [], g_0), (.putfield 106, 3, 8, 7, [759], g_0), (.iload_n 3, 1, 3, 0, [], g_0), (.ireturn, 1, 0, 0, [], g_0)]
def bk_M_readsPosters_10 : List En := [(.iconst 5, 1, 5, 0, [], g_0), (.aload_n 0, 1, 0, 0, [], g_0), (.getfield 106, 3, 8, 7, [759], g_0), (.imul, 1, 0, 0, [], g_0), (.istore 8, 2, 8, 0, [], g_0), (.iload 7, 2, 7, 0, [], g_0), (.ifCond .eq 18, 3, 11, 0, [], g_0), (.aload_n 0, 1, 0, 0, [], g_0), (.dup, 1, 0, 0, [], g_0), (.getfield 106, 3, 8, 7, [759], g_0), (.iconst 1, 1, 1, 0, [], g_0), (.iadd, 1, 0, 0, [], g_0), (.putfield 106, 3, 8, 7, [759], g_0), (.iconst 0, 1, 0, 0, [], g_0), (.istore_n 2, 1, 2, 0, [], g_0), (.goto 95, 3, 16, 0, [], g_0)]
def bk_M_readsPosters_11 : List En := [(.iload_n 2, 1, 2, 0, [], g_0), (.ifCond .ne 18, 3, 12, 0, [], g_0), (.aload_n 0, 1, 0, 0, [], g_0), (.getfield 28, 3, 8, 8, [760], g_0), (.iload 8, 2, 8, 0, [], g_0), (.bipush 10, 2, 10, 0, [], g_0), (.iload 6, 2, 6, 0, [], g_0), (.imul, 1, 0, 0, [], g_0), (.iastore, 1, 0, 0, [], g_0), (.goto 73, 3, 15, 0, [], g_0)]
def bk_M_readsPosters_12 : List En := [(.iload_n 2, 1, 2, 0, [], g_0), (.iconst 1, 1, 1, 0, [], g_0), (.if_icmp .ne 18, 3, 13, 0, [], g_0), (.aload_n 0, 1, 0, 0, [], g_0), (.getfield 28, 3, 8, 8, [760], g_0), (.iload 8, 2, 8, 0, [], g_0), (.dup2, 1, 0, 0, [], g_0), (.iaload, 1, 0, 0, [], g_0), (.iload 6, 2, 6, 0, [], g_0), (.iadd, 1, 0, 0, [], g_0), (.iastore, 1, 0, 0, [], g_0), (.goto 53, 3, 15, 0, [], g_0)]
def bk_M_readsPosters_13 : List En := [(.iload_n 2, 1, 2, 0, [], g_0), (.iconst 5, 1, 5, 0, [], g_0), (.if_icmp .ge 19, 3, 14, 0, [], g_0), (.aload_n 0, 1, 0, 0, [], g_0), (.getfield 28, 3, 8, 8, [760], g_0), (.iload 8, 2, 8, 0, [], g_0), (.iload_n 2, 1, 2, 0, [], g_0), (.iadd, 1, 0, 0, [], g_0), (.iconst 1, 1, 1, 0, [], g_0), (.isub, 1, 0, 0, [], g_0), (.iload 6, 2, 6, 0, [], g_0), (.iastore, 1, 0, 0, [], g_0), (.goto 32, 3, 15, 0, [], g_0)]
def bk_M_readsPosters_14 : List En := [(.aload_n 0, 1, 0, 0, [], g_0), (.getfield 31, 3, 8, 9, [761], g_0), (.iconst 4, 1, 4, 0, [], g_0), (.aload_n 0, 1, 0, 0, [], g_0), (.getfield 106, 3, 8, 7, [759], g_0), (.imul, 1, 0, 0, [], g_0), (.iload_n 2, 1, 2, 0, [], g_0), (.iadd, 1, 0, 0, [], g_0), (.iconst 5, 1, 5, 0, [], g_0), (.isub, 1, 0, 0, [], g_0), (.iload 6, 2, 6, 0, [], g_0), (.iastore, 1, 0, 0, [], g_0), (.aload_n 0, 1, 0, 0, [], g_0), (.getfield 28, 3, 8, 8, [760], g_0), (.iload 8, 2, 8, 0, [], g_0), (.iconst 4, 1, 4, 0, [], g_0), (.iadd, 1, 0, 0, [], g_0), (.iload_n 2, 1, 2, 0, [], g_0), (.iconst 4, 1, 4, 0, [], g_0), (.isub, 1, 0, 0, [], g_0), (.iastore, 1, 0, 0, [], g_0)]
def bk_M_readsPosters_15 : List En := [(.iinc 2 1, 3, 2, 1, [0], g_0)]
def bk_M_readsPosters_16 : List En := [(.iinc 3 1, 3, 3, 1, [0], g_0), (.goto (-247), 3, 1, 0, [], g_0)]
def bk_M_readsPosters_17 : List En := [(.iload_n 1, 1, 1, 0, [], g_0), (.ifCond .le 16, 3, 18, 0, [], g_0), (.iload_n 2, 1, 2, 0, [], g_0), (.bipush 6, 2, 6, 0, [], g_0), (.if_icmp .ge 10, 3, 18, 0, [], g_0), (.aload_n 0, 1, 0, 0, [], g_0), (.iconst 0, 1, 0, 0, [], g_0), (.putfield 106, 3, 8, 7, [759], g_0), (.iload_n 1, 1, 1, 0, [], g_0), (.ireturn, 1, 0, 0, [], g_0)]
def bk_M_readsPosters_18 : List En := [(.aload_n 0, 1, 0, 0, [], g_0), (.dup, 1, 0, 0, [], g_0), (.getfield 106, 3, 8, 7, [759], g_0), (.iload_n 1, 1, 1, 0, [], g_0), (.ifCond .le 7, 3, 19, 0, [], g_0), (.iconst 1, 1, 1, 0, [], g_0), (.goto 4, 3, 20, 0, [], g_0)]
def bk_M_readsPosters_19 : List En := [(.iconst 0, 1, 0, 0, [], g_0)]
def bk_M_readsPosters_20 : List En := [(.iadd, 1, 0, 0, [], g_0), (.putfield 106, 3, 8, 7, [759], g_0), (.iconst (-1), 1, 1, 1, [], g_0), (.ireturn, 1, 0, 0, [], g_0)]
def cd_M_readsPosters : Cd := [(0, bk_M_readsPosters_0), (16, bk_M_readsPosters_1), (38, bk_M_readsPosters_2), (39, bk_M_readsPosters_3), (75, bk_M_readsPosters_4), (80, bk_M_readsPosters_5), (98, bk_M_readsPosters_6), (100, bk_M_readsPosters_7), (118, bk_M_readsPosters_8), (119, bk_M_readsPosters_9), (140, bk_M_readsPosters_10), (168, bk_M_readsPosters_11), (187, bk_M_readsPosters_12), (207, bk_M_readsPosters_13), (228, bk_M_readsPosters_14), (257, bk_M_readsPosters_15), (260, bk_M_readsPosters_16), (266, bk_M_readsPosters_17), (283, bk_M_readsPosters_18), (296, bk_M_readsPosters_19), (297, bk_M_readsPosters_20), (303, [])]
def Y_M_readsPosters : Mth := (g_M_readsPosters, RM, cd_M_readsPosters)
set_option maxRecDepth 20000 in
theorem ok_M_readsPosters : okM Y_M_readsPosters = true := by decide +kernel
theorem en_M_readsPosters {d : Nat} {u : Mem} {Q : Option MV → Mem → Prop} (as : List MV) (hc : cats as ≤ 9) (h : RunB d Y_M_readsPosters 0 (argL as 9) [] u Q) : OKm d g_M_readsPosters as u Q := OKm.of (Y := Y_M_readsPosters) ok_M_readsPosters hc h
theorem rb_M_readsPosters_0 {d : Nat} {L : List (Option MV)} {st : List MV} {u : Mem} {Q : Option MV → Mem → Prop} (h : go d Y_M_readsPosters Q bk_M_readsPosters_0 0 L st u) : RunB (d + 1) Y_M_readsPosters 0 L st u Q := run_go ok_M_readsPosters (by decide) h
theorem rb_M_readsPosters_1 {d : Nat} {L : List (Option MV)} {st : List MV} {u : Mem} {Q : Option MV → Mem → Prop} (h : go d Y_M_readsPosters Q bk_M_readsPosters_1 1 L st u) : RunB (d + 1) Y_M_readsPosters 1 L st u Q := run_go ok_M_readsPosters (by decide) h
theorem rb_M_readsPosters_2 {d : Nat} {L : List (Option MV)} {st : List MV} {u : Mem} {Q : Option MV → Mem → Prop} (h : go d Y_M_readsPosters Q bk_M_readsPosters_2 2 L st u) : RunB (d + 1) Y_M_readsPosters 2 L st u Q := run_go ok_M_readsPosters (by decide) h
theorem rb_M_readsPosters_3 {d : Nat} {L : List (Option MV)} {st : List MV} {u : Mem} {Q : Option MV → Mem → Prop} (h : go d Y_M_readsPosters Q bk_M_readsPosters_3 3 L st u) : RunB (d + 1) Y_M_readsPosters 3 L st u Q := run_go ok_M_readsPosters (by decide) h
theorem rb_M_readsPosters_4 {d : Nat} {L : List (Option MV)} {st : List MV} {u : Mem} {Q : Option MV → Mem → Prop} (h : go d Y_M_readsPosters Q bk_M_readsPosters_4 4 L st u) : RunB (d + 1) Y_M_readsPosters 4 L st u Q := run_go ok_M_readsPosters (by decide) h
theorem rb_M_readsPosters_5 {d : Nat} {L : List (Option MV)} {st : List MV} {u : Mem} {Q : Option MV → Mem → Prop} (h : go d Y_M_readsPosters Q bk_M_readsPosters_5 5 L st u) : RunB (d + 1) Y_M_readsPosters 5 L st u Q := run_go ok_M_readsPosters (by decide) h
theorem rb_M_readsPosters_6 {d : Nat} {L : List (Option MV)} {st : List MV} {u : Mem} {Q : Option MV → Mem → Prop} (h : go d Y_M_readsPosters Q bk_M_readsPosters_6 6 L st u) : RunB (d + 1) Y_M_readsPosters 6 L st u Q := run_go ok_M_readsPosters (by decide) h
theorem rb_M_readsPosters_7 {d : Nat} {L : List (Option MV)} {st : List MV} {u : Mem} {Q : Option MV → Mem → Prop} (h : go d Y_M_readsPosters Q bk_M_readsPosters_7 7 L st u) : RunB (d + 1) Y_M_readsPosters 7 L st u Q := run_go ok_M_readsPosters (by decide) h
theorem rb_M_readsPosters_8 {d : Nat} {L : List (Option MV)} {st : List MV} {u : Mem} {Q : Option MV → Mem → Prop} (h : go d Y_M_readsPosters Q bk_M_readsPosters_8 8 L st u) : RunB (d + 1) Y_M_readsPosters 8 L st u Q := run_go ok_M_readsPosters (by decide) h
theorem rb_M_readsPosters_9 {d : Nat} {L : List (Option MV)} {st : List MV} {u : Mem} {Q : Option MV → Mem → Prop} (h : go d Y_M_readsPosters Q bk_M_readsPosters_9 9 L st u) : RunB (d + 1) Y_M_readsPosters 9 L st u Q := run_go ok_M_readsPosters (by decide) h
theorem rb_M_readsPosters_10 {d : Nat} {L : List (Option MV)} {st : List MV} {u : Mem} {Q : Option MV → Mem → Prop} (h : go d Y_M_readsPosters Q bk_M_readsPosters_10 10 L st u) : RunB (d + 1) Y_M_readsPosters 10 L st u Q := run_go ok_M_readsPosters (by decide) h
theorem rb_M_readsPosters_11 {d : Nat} {L : List (Option MV)} {st : List MV} {u : Mem} {Q : Option MV → Mem → Prop} (h : go d Y_M_readsPosters Q bk_M_readsPosters_11 11 L st u) : RunB (d + 1) Y_M_readsPosters 11 L st u Q := run_go ok_M_readsPosters (by decide) h
theorem rb_M_readsPosters_12 {d : Nat} {L : List (Option MV)} {st : List MV} {u : Mem} {Q : Option MV → Mem → Prop} (h : go d Y_M_readsPosters Q bk_M_readsPosters_12 12 L st u) : RunB (d + 1) Y_M_readsPosters 12 L st u Q := run_go ok_M_readsPosters (by decide) h
theorem rb_M_readsPosters_13 {d : Nat} {L : List (Option MV)} {st : List MV} {u : Mem} {Q : Option MV → Mem → Prop} (h : go d Y_M_readsPosters Q bk_M_readsPosters_13 13 L st u) : RunB (d + 1) Y_M_readsPosters 13 L st u Q := run_go ok_M_readsPosters (by decide) h
theorem rb_M_readsPosters_14 {d : Nat} {L : List (Option MV)} {st : List MV} {u : Mem} {Q : Option MV → Mem → Prop} (h : go d Y_M_readsPosters Q bk_M_readsPosters_14 14 L st u) : RunB (d + 1) Y_M_readsPosters 14 L st u Q := run_go ok_M_readsPosters (by decide) h
theorem rb_M_readsPosters_15 {d : Nat} {L : List (Option MV)} {st : List MV} {u : Mem} {Q : Option MV → Mem → Prop} (h : go d Y_M_readsPosters Q bk_M_readsPosters_15 15 L st u) : RunB (d + 1) Y_M_readsPosters 15 L st u Q := run_go ok_M_readsPosters (by decide) h
theorem rb_M_readsPosters_16 {d : Nat} {L : List (Option MV)} {st : List MV} {u : Mem} {Q : Option MV → Mem → Prop} (h : go d Y_M_readsPosters Q bk_M_readsPosters_16 16 L st u) : RunB (d + 1) Y_M_readsPosters 16 L st u Q := run_go ok_M_readsPosters (by decide) h
theorem rb_M_readsPosters_17 {d : Nat} {L : List (Option MV)} {st : List MV} {u : Mem} {Q : Option MV → Mem → Prop} (h : go d Y_M_readsPosters Q bk_M_readsPosters_17 17 L st u) : RunB (d + 1) Y_M_readsPosters 17 L st u Q := run_go ok_M_readsPosters (by decide) h
theorem rb_M_readsPosters_18 {d : Nat} {L : List (Option MV)} {st : List MV} {u : Mem} {Q : Option MV → Mem → Prop} (h : go d Y_M_readsPosters Q bk_M_readsPosters_18 18 L st u) : RunB (d + 1) Y_M_readsPosters 18 L st u Q := run_go ok_M_readsPosters (by decide) h
theorem rb_M_readsPosters_19 {d : Nat} {L : List (Option MV)} {st : List MV} {u : Mem} {Q : Option MV → Mem → Prop} (h : go d Y_M_readsPosters Q bk_M_readsPosters_19 19 L st u) : RunB (d + 1) Y_M_readsPosters 19 L st u Q := run_go ok_M_readsPosters (by decide) h
theorem rb_M_readsPosters_20 {d : Nat} {L : List (Option MV)} {st : List MV} {u : Mem} {Q : Option MV → Mem → Prop} (h : go d Y_M_readsPosters Q bk_M_readsPosters_20 20 L st u) : RunB (d + 1) Y_M_readsPosters 20 L st u Q := run_go ok_M_readsPosters (by decide) h
def bk_M_dries_0 : List En := [(.iconst 0, 1, 0, 0, [], g_0), (.istore_n 2, 1, 2, 0, [], g_0)]
def bk_M_dries_1 : List En := [(.iload_n 2, 1, 2, 0, [], g_0), (.bipush 20, 2, 20, 0, [], g_0), (.if_icmp .ge 16, 3, 2, 0, [], g_0), (.aload_n 0, 1, 0, 0, [], g_0), (.getfield 34, 3, 8, 11, [763], g_0), (.iload_n 2, 1, 2, 0, [], g_0), (.iconst 0, 1, 0, 0, [], g_0), (.iastore, 1, 0, 0, [], g_0), (.iinc 2 1, 3, 2, 1, [0], g_0), (.goto (-16), 3, 1, 0, [], g_0)]
def bk_M_dries_2 : List En := [(.aload_n 0, 1, 0, 0, [], g_0), (.iconst 0, 1, 0, 0, [], g_0), (.putfield 116, 3, 8, 10, [762], g_0), (.iload_n 1, 1, 1, 0, [], g_0), (.ireturn, 1, 0, 0, [], g_0)]
def cd_M_dries : Cd := [(0, bk_M_dries_0), (2, bk_M_dries_1), (21, bk_M_dries_2), (28, [])]
def Y_M_dries : Mth := (g_M_dries, RM, cd_M_dries)
set_option maxRecDepth 20000 in
theorem ok_M_dries : okM Y_M_dries = true := by decide +kernel
theorem en_M_dries {d : Nat} {u : Mem} {Q : Option MV → Mem → Prop} (as : List MV) (hc : cats as ≤ 3) (h : RunB d Y_M_dries 0 (argL as 3) [] u Q) : OKm d g_M_dries as u Q := OKm.of (Y := Y_M_dries) ok_M_dries hc h
theorem rb_M_dries_0 {d : Nat} {L : List (Option MV)} {st : List MV} {u : Mem} {Q : Option MV → Mem → Prop} (h : go d Y_M_dries Q bk_M_dries_0 0 L st u) : RunB (d + 1) Y_M_dries 0 L st u Q := run_go ok_M_dries (by decide) h
theorem rb_M_dries_1 {d : Nat} {L : List (Option MV)} {st : List MV} {u : Mem} {Q : Option MV → Mem → Prop} (h : go d Y_M_dries Q bk_M_dries_1 1 L st u) : RunB (d + 1) Y_M_dries 1 L st u Q := run_go ok_M_dries (by decide) h
theorem rb_M_dries_2 {d : Nat} {L : List (Option MV)} {st : List MV} {u : Mem} {Q : Option MV → Mem → Prop} (h : go d Y_M_dries Q bk_M_dries_2 2 L st u) : RunB (d + 1) Y_M_dries 2 L st u Q := run_go ok_M_dries (by decide) h
def bk_M_readsRains_0 : List En := [(.aload_n 0, 1, 0, 0, [], g_0), (.iconst (-1), 1, 1, 1, [], g_0), (.invokevirtual 119, 3, 1, 8, [917, 919, 31, 77, 920], g_M_dries), (.pop, 1, 0, 0, [], g_0), (.iconst 0, 1, 0, 0, [], g_0), (.istore_n 1, 1, 1, 0, [], g_0)]
def bk_M_readsRains_1 : List En := [(.iload_n 1, 1, 1, 0, [], g_0), (.aload_n 0, 1, 0, 0, [], g_0), (.getfield 25, 3, 8, 6, [758], g_0), (.iconst 1, 1, 1, 0, [], g_0), (.iaload, 1, 0, 0, [], g_0), (.if_icmp .ge 54, 3, 3, 0, [], g_0), (.aload_n 0, 1, 0, 0, [], g_0), (.getfield 22, 3, 8, 5, [757], g_0), (.bipush 80, 2, 80, 0, [], g_0), (.iload_n 1, 1, 1, 0, [], g_0), (.iadd, 1, 0, 0, [], g_0), (.iaload, 1, 0, 0, [], g_0), (.iconst 0, 1, 0, 0, [], g_0), (.bipush 9, 2, 9, 0, [], g_0), (.invokestatic 103, 3, 3, 1, [910, 911, 0, 77, 912], g_M_figureOf), (.istore_n 2, 1, 2, 0, [], g_0), (.iload_n 2, 1, 2, 0, [], g_0), (.bipush (-9), 2, 9, 1, [], g_0), (.if_icmp .ne 9, 3, 2, 0, [], g_0), (.aload_n 0, 1, 0, 0, [], g_0), (.iload_n 1, 1, 1, 0, [], g_0), (.invokevirtual 119, 3, 1, 8, [917, 919, 31, 77, 920], g_M_dries), (.ireturn, 1, 0, 0, [], g_0)]
def bk_M_readsRains_2 : List En := [(.aload_n 0, 1, 0, 0, [], g_0), (.getfield 34, 3, 8, 11, [763], g_0), (.iload_n 1, 1, 1, 0, [], g_0), (.iload_n 2, 1, 2, 0, [], g_0), (.iastore, 1, 0, 0, [], g_0), (.aload_n 0, 1, 0, 0, [], g_0), (.dup, 1, 0, 0, [], g_0), (.getfield 116, 3, 8, 10, [762], g_0), (.iconst 1, 1, 1, 0, [], g_0), (.iadd, 1, 0, 0, [], g_0), (.putfield 116, 3, 8, 10, [762], g_0), (.iinc 1 1, 3, 1, 1, [0], g_0), (.goto (-58), 3, 1, 0, [], g_0)]
def bk_M_readsRains_3 : List En := [(.iconst (-1), 1, 1, 1, [], g_0), (.ireturn, 1, 0, 0, [], g_0)]
def cd_M_readsRains : Cd := [(0, bk_M_readsRains_0), (8, bk_M_readsRains_1), (46, bk_M_readsRains_2), (69, bk_M_readsRains_3), (71, [])]
def Y_M_readsRains : Mth := (g_M_readsRains, RM, cd_M_readsRains)
set_option maxRecDepth 20000 in
theorem ok_M_readsRains : okM Y_M_readsRains = true := by decide +kernel
theorem en_M_readsRains {d : Nat} {u : Mem} {Q : Option MV → Mem → Prop} (as : List MV) (hc : cats as ≤ 3) (h : RunB d Y_M_readsRains 0 (argL as 3) [] u Q) : OKm d g_M_readsRains as u Q := OKm.of (Y := Y_M_readsRains) ok_M_readsRains hc h
theorem rb_M_readsRains_0 {d : Nat} {L : List (Option MV)} {st : List MV} {u : Mem} {Q : Option MV → Mem → Prop} (h : go d Y_M_readsRains Q bk_M_readsRains_0 0 L st u) : RunB (d + 1) Y_M_readsRains 0 L st u Q := run_go ok_M_readsRains (by decide) h
theorem rb_M_readsRains_1 {d : Nat} {L : List (Option MV)} {st : List MV} {u : Mem} {Q : Option MV → Mem → Prop} (h : go d Y_M_readsRains Q bk_M_readsRains_1 1 L st u) : RunB (d + 1) Y_M_readsRains 1 L st u Q := run_go ok_M_readsRains (by decide) h
theorem rb_M_readsRains_2 {d : Nat} {L : List (Option MV)} {st : List MV} {u : Mem} {Q : Option MV → Mem → Prop} (h : go d Y_M_readsRains Q bk_M_readsRains_2 2 L st u) : RunB (d + 1) Y_M_readsRains 2 L st u Q := run_go ok_M_readsRains (by decide) h
theorem rb_M_readsRains_3 {d : Nat} {L : List (Option MV)} {st : List MV} {u : Mem} {Q : Option MV → Mem → Prop} (h : go d Y_M_readsRains Q bk_M_readsRains_3 3 L st u) : RunB (d + 1) Y_M_readsRains 3 L st u Q := run_go ok_M_readsRains (by decide) h
def bk_M_lawless_0 : List En := [(.iconst 0, 1, 0, 0, [], g_0), (.istore_n 2, 1, 2, 0, [], g_0)]
def bk_M_lawless_1 : List En := [(.iload_n 2, 1, 2, 0, [], g_0), (.bipush 6, 2, 6, 0, [], g_0), (.if_icmp .ge 16, 3, 2, 0, [], g_0), (.aload_n 0, 1, 0, 0, [], g_0), (.getfield 37, 3, 8, 12, [764], g_0), (.iload_n 2, 1, 2, 0, [], g_0), (.iconst (-1), 1, 1, 1, [], g_0), (.iastore, 1, 0, 0, [], g_0), (.iinc 2 1, 3, 2, 1, [0], g_0), (.goto (-16), 3, 1, 0, [], g_0)]
def bk_M_lawless_2 : List En := [(.iload_n 1, 1, 1, 0, [], g_0), (.ireturn, 1, 0, 0, [], g_0)]
def cd_M_lawless : Cd := [(0, bk_M_lawless_0), (2, bk_M_lawless_1), (21, bk_M_lawless_2), (23, [])]
def Y_M_lawless : Mth := (g_M_lawless, RM, cd_M_lawless)
set_option maxRecDepth 20000 in
theorem ok_M_lawless : okM Y_M_lawless = true := by decide +kernel
theorem en_M_lawless {d : Nat} {u : Mem} {Q : Option MV → Mem → Prop} (as : List MV) (hc : cats as ≤ 3) (h : RunB d Y_M_lawless 0 (argL as 3) [] u Q) : OKm d g_M_lawless as u Q := OKm.of (Y := Y_M_lawless) ok_M_lawless hc h
theorem rb_M_lawless_0 {d : Nat} {L : List (Option MV)} {st : List MV} {u : Mem} {Q : Option MV → Mem → Prop} (h : go d Y_M_lawless Q bk_M_lawless_0 0 L st u) : RunB (d + 1) Y_M_lawless 0 L st u Q := run_go ok_M_lawless (by decide) h
theorem rb_M_lawless_1 {d : Nat} {L : List (Option MV)} {st : List MV} {u : Mem} {Q : Option MV → Mem → Prop} (h : go d Y_M_lawless Q bk_M_lawless_1 1 L st u) : RunB (d + 1) Y_M_lawless 1 L st u Q := run_go ok_M_lawless (by decide) h
theorem rb_M_lawless_2 {d : Nat} {L : List (Option MV)} {st : List MV} {u : Mem} {Q : Option MV → Mem → Prop} (h : go d Y_M_lawless Q bk_M_lawless_2 2 L st u) : RunB (d + 1) Y_M_lawless 2 L st u Q := run_go ok_M_lawless (by decide) h
def bk_M_readsLaw_0 : List En := [(.aload_n 0, 1, 0, 0, [], g_0), (.iconst (-1), 1, 1, 1, [], g_0), (.invokevirtual 122, 3, 1, 8, [925, 927, 33, 77, 928], g_M_lawless), (.pop, 1, 0, 0, [], g_0), (.iconst 0, 1, 0, 0, [], g_0), (.istore_n 1, 1, 1, 0, [], g_0)]
def bk_M_readsLaw_1 : List En := [(.iload_n 1, 1, 1, 0, [], g_0), (.aload_n 0, 1, 0, 0, [], g_0), (.getfield 25, 3, 8, 6, [758], g_0), (.iconst 2, 1, 2, 0, [], g_0), (.iaload, 1, 0, 0, [], g_0), (.if_icmp .ge 66, 3, 5, 0, [], g_0), (.aload_n 0, 1, 0, 0, [], g_0), (.getfield 22, 3, 8, 5, [757], g_0), (.sipush 160, 3, 160, 0, [], g_0), (.iload_n 1, 1, 1, 0, [], g_0), (.iadd, 1, 0, 0, [], g_0), (.iaload, 1, 0, 0, [], g_0), (.istore_n 2, 1, 2, 0, [], g_0), (.iload_n 2, 1, 2, 0, [], g_0), (.bipush 46, 2, 46, 0, [], g_0), (.if_icmp .eq 23, 3, 2, 0, [], g_0), (.iload_n 2, 1, 2, 0, [], g_0), (.i2l, 1, 0, 0, [], g_0), (.ldc2_w 109, 3, 97, 0, [905], g_0), (.ldc2_w 111, 3, 104, 0, [906], g_0), (.invokestatic 70, 3, 3, 1, [845, 846, 0, 77, 847], g_M_in), (.ifCond .ne 9, 3, 2, 0, [], g_0), (.aload_n 0, 1, 0, 0, [], g_0), (.iload_n 1, 1, 1, 0, [], g_0), (.invokevirtual 122, 3, 1, 8, [925, 927, 33, 77, 928], g_M_lawless), (.ireturn, 1, 0, 0, [], g_0)]
def bk_M_readsLaw_2 : List En := [(.aload_n 0, 1, 0, 0, [], g_0), (.getfield 37, 3, 8, 12, [764], g_0), (.iload_n 1, 1, 1, 0, [], g_0), (.iload_n 2, 1, 2, 0, [], g_0), (.bipush 46, 2, 46, 0, [], g_0), (.if_icmp .ne 7, 3, 3, 0, [], g_0), (.iconst (-1), 1, 1, 1, [], g_0), (.goto 7, 3, 4, 0, [], g_0)]
def bk_M_readsLaw_3 : List En := [(.iload_n 2, 1, 2, 0, [], g_0), (.bipush 97, 2, 97, 0, [], g_0), (.isub, 1, 0, 0, [], g_0)]
def bk_M_readsLaw_4 : List En := [(.iastore, 1, 0, 0, [], g_0), (.iinc 1 1, 3, 1, 1, [0], g_0), (.goto (-70), 3, 1, 0, [], g_0)]
def bk_M_readsLaw_5 : List En := [(.iconst (-1), 1, 1, 1, [], g_0), (.ireturn, 1, 0, 0, [], g_0)]
def cd_M_readsLaw : Cd := [(0, bk_M_readsLaw_0), (8, bk_M_readsLaw_1), (55, bk_M_readsLaw_2), (70, bk_M_readsLaw_3), (74, bk_M_readsLaw_4), (81, bk_M_readsLaw_5), (83, [])]
def Y_M_readsLaw : Mth := (g_M_readsLaw, RM, cd_M_readsLaw)
set_option maxRecDepth 20000 in
theorem ok_M_readsLaw : okM Y_M_readsLaw = true := by decide +kernel
theorem en_M_readsLaw {d : Nat} {u : Mem} {Q : Option MV → Mem → Prop} (as : List MV) (hc : cats as ≤ 3) (h : RunB d Y_M_readsLaw 0 (argL as 3) [] u Q) : OKm d g_M_readsLaw as u Q := OKm.of (Y := Y_M_readsLaw) ok_M_readsLaw hc h
theorem rb_M_readsLaw_0 {d : Nat} {L : List (Option MV)} {st : List MV} {u : Mem} {Q : Option MV → Mem → Prop} (h : go d Y_M_readsLaw Q bk_M_readsLaw_0 0 L st u) : RunB (d + 1) Y_M_readsLaw 0 L st u Q := run_go ok_M_readsLaw (by decide) h
theorem rb_M_readsLaw_1 {d : Nat} {L : List (Option MV)} {st : List MV} {u : Mem} {Q : Option MV → Mem → Prop} (h : go d Y_M_readsLaw Q bk_M_readsLaw_1 1 L st u) : RunB (d + 1) Y_M_readsLaw 1 L st u Q := run_go ok_M_readsLaw (by decide) h
theorem rb_M_readsLaw_2 {d : Nat} {L : List (Option MV)} {st : List MV} {u : Mem} {Q : Option MV → Mem → Prop} (h : go d Y_M_readsLaw Q bk_M_readsLaw_2 2 L st u) : RunB (d + 1) Y_M_readsLaw 2 L st u Q := run_go ok_M_readsLaw (by decide) h
theorem rb_M_readsLaw_3 {d : Nat} {L : List (Option MV)} {st : List MV} {u : Mem} {Q : Option MV → Mem → Prop} (h : go d Y_M_readsLaw Q bk_M_readsLaw_3 3 L st u) : RunB (d + 1) Y_M_readsLaw 3 L st u Q := run_go ok_M_readsLaw (by decide) h
theorem rb_M_readsLaw_4 {d : Nat} {L : List (Option MV)} {st : List MV} {u : Mem} {Q : Option MV → Mem → Prop} (h : go d Y_M_readsLaw Q bk_M_readsLaw_4 4 L st u) : RunB (d + 1) Y_M_readsLaw 4 L st u Q := run_go ok_M_readsLaw (by decide) h
theorem rb_M_readsLaw_5 {d : Nat} {L : List (Option MV)} {st : List MV} {u : Mem} {Q : Option MV → Mem → Prop} (h : go d Y_M_readsLaw Q bk_M_readsLaw_5 5 L st u) : RunB (d + 1) Y_M_readsLaw 5 L st u Q := run_go ok_M_readsLaw (by decide) h
def bk_M_readsText_0 : List En := [(.iload_n 1, 1, 1, 0, [], g_0), (.ifCond .ne 10, 3, 1, 0, [], g_0), (.aload_n 0, 1, 0, 0, [], g_0), (.invokevirtual 125, 3, 0, 8, [901, 903, 29, 77, 904], g_M_readsPosters), (.goto 19, 3, 3, 0, [], g_0)]
def bk_M_readsText_1 : List En := [(.iload_n 1, 1, 1, 0, [], g_0), (.iconst 1, 1, 1, 0, [], g_0), (.if_icmp .ne 10, 3, 2, 0, [], g_0), (.aload_n 0, 1, 0, 0, [], g_0), (.invokevirtual 129, 3, 0, 8, [913, 915, 30, 77, 916], g_M_readsRains), (.goto 7, 3, 3, 0, [], g_0)]
def bk_M_readsText_2 : List En := [(.aload_n 0, 1, 0, 0, [], g_0), (.invokevirtual 132, 3, 0, 8, [921, 923, 32, 77, 924], g_M_readsLaw)]
def bk_M_readsText_3 : List En := [(.ireturn, 1, 0, 0, [], g_0)]
def cd_M_readsText : Cd := [(0, bk_M_readsText_0), (11, bk_M_readsText_1), (23, bk_M_readsText_2), (27, bk_M_readsText_3), (28, [])]
def Y_M_readsText : Mth := (g_M_readsText, RM, cd_M_readsText)
set_option maxRecDepth 20000 in
theorem ok_M_readsText : okM Y_M_readsText = true := by decide +kernel
theorem en_M_readsText {d : Nat} {u : Mem} {Q : Option MV → Mem → Prop} (as : List MV) (hc : cats as ≤ 2) (h : RunB d Y_M_readsText 0 (argL as 2) [] u Q) : OKm d g_M_readsText as u Q := OKm.of (Y := Y_M_readsText) ok_M_readsText hc h
theorem rb_M_readsText_0 {d : Nat} {L : List (Option MV)} {st : List MV} {u : Mem} {Q : Option MV → Mem → Prop} (h : go d Y_M_readsText Q bk_M_readsText_0 0 L st u) : RunB (d + 1) Y_M_readsText 0 L st u Q := run_go ok_M_readsText (by decide) h
theorem rb_M_readsText_1 {d : Nat} {L : List (Option MV)} {st : List MV} {u : Mem} {Q : Option MV → Mem → Prop} (h : go d Y_M_readsText Q bk_M_readsText_1 1 L st u) : RunB (d + 1) Y_M_readsText 1 L st u Q := run_go ok_M_readsText (by decide) h
theorem rb_M_readsText_2 {d : Nat} {L : List (Option MV)} {st : List MV} {u : Mem} {Q : Option MV → Mem → Prop} (h : go d Y_M_readsText Q bk_M_readsText_2 2 L st u) : RunB (d + 1) Y_M_readsText 2 L st u Q := run_go ok_M_readsText (by decide) h
theorem rb_M_readsText_3 {d : Nat} {L : List (Option MV)} {st : List MV} {u : Mem} {Q : Option MV → Mem → Prop} (h : go d Y_M_readsText Q bk_M_readsText_3 3 L st u) : RunB (d + 1) Y_M_readsText 3 L st u Q := run_go ok_M_readsText (by decide) h
def bk_M_fault_0 : List En := [(.iload_n 1, 1, 1, 0, [], g_0), (.invokestatic 98, 3, 1, 1, [881, 882, 0, 77, 883], g_M_isText), (.ifCond .eq 11, 3, 1, 0, [], g_0), (.aload_n 0, 1, 0, 0, [], g_0), (.iload_n 1, 1, 1, 0, [], g_0), (.invokevirtual 135, 3, 1, 8, [897, 899, 28, 77, 900], g_M_readsText), (.goto 5, 3, 2, 0, [], g_0)]
def bk_M_fault_1 : List En := [(.bipush (-2), 2, 2, 1, [], g_0)]
def bk_M_fault_2 : List En := [(.ireturn, 1, 0, 0, [], g_0)]
def cd_M_fault : Cd := [(0, bk_M_fault_0), (15, bk_M_fault_1), (17, bk_M_fault_2), (18, [])]
def Y_M_fault : Mth := (g_M_fault, RM, cd_M_fault)
set_option maxRecDepth 20000 in
theorem ok_M_fault : okM Y_M_fault = true := by decide +kernel
theorem en_M_fault {d : Nat} {u : Mem} {Q : Option MV → Mem → Prop} (as : List MV) (hc : cats as ≤ 2) (h : RunB d Y_M_fault 0 (argL as 2) [] u Q) : OKm d g_M_fault as u Q := OKm.of (Y := Y_M_fault) ok_M_fault hc h
theorem rb_M_fault_0 {d : Nat} {L : List (Option MV)} {st : List MV} {u : Mem} {Q : Option MV → Mem → Prop} (h : go d Y_M_fault Q bk_M_fault_0 0 L st u) : RunB (d + 1) Y_M_fault 0 L st u Q := run_go ok_M_fault (by decide) h
theorem rb_M_fault_1 {d : Nat} {L : List (Option MV)} {st : List MV} {u : Mem} {Q : Option MV → Mem → Prop} (h : go d Y_M_fault Q bk_M_fault_1 1 L st u) : RunB (d + 1) Y_M_fault 1 L st u Q := run_go ok_M_fault (by decide) h
theorem rb_M_fault_2 {d : Nat} {L : List (Option MV)} {st : List MV} {u : Mem} {Q : Option MV → Mem → Prop} (h : go d Y_M_fault Q bk_M_fault_2 2 L st u) : RunB (d + 1) Y_M_fault 2 L st u Q := run_go ok_M_fault (by decide) h
def bk_M_isPoster_0 : List En := [(.iload_n 1, 1, 1, 0, [], g_0), (.i2l, 1, 0, 0, [], g_0), (.lconst 0, 1, 0, 0, [], g_0), (.aload_n 0, 1, 0, 0, [], g_0), (.getfield 106, 3, 8, 7, [759], g_0), (.iconst 1, 1, 1, 0, [], g_0), (.isub, 1, 0, 0, [], g_0), (.i2l, 1, 0, 0, [], g_0), (.invokestatic 70, 3, 3, 1, [845, 846, 0, 77, 847], g_M_in), (.ireturn, 1, 0, 1, [], g_0)]
def cd_M_isPoster : Cd := [(0, bk_M_isPoster_0), (14, [])]
def Y_M_isPoster : Mth := (g_M_isPoster, RM, cd_M_isPoster)
set_option maxRecDepth 20000 in
theorem ok_M_isPoster : okM Y_M_isPoster = true := by decide +kernel
theorem en_M_isPoster {d : Nat} {u : Mem} {Q : Option MV → Mem → Prop} (as : List MV) (hc : cats as ≤ 2) (h : RunB d Y_M_isPoster 0 (argL as 2) [] u Q) : OKm d g_M_isPoster as u Q := OKm.of (Y := Y_M_isPoster) ok_M_isPoster hc h
theorem rb_M_isPoster_0 {d : Nat} {L : List (Option MV)} {st : List MV} {u : Mem} {Q : Option MV → Mem → Prop} (h : go d Y_M_isPoster Q bk_M_isPoster_0 0 L st u) : RunB (d + 1) Y_M_isPoster 0 L st u Q := run_go ok_M_isPoster (by decide) h
def bk_M_isDay_0 : List En := [(.iload_n 0, 1, 0, 0, [], g_0), (.i2l, 1, 0, 0, [], g_0), (.lconst 0, 1, 0, 0, [], g_0), (.ldc2_w 138, 3, 19, 0, [949], g_0), (.invokestatic 70, 3, 3, 1, [845, 846, 0, 77, 847], g_M_in), (.ireturn, 1, 0, 1, [], g_0)]
def cd_M_isDay : Cd := [(0, bk_M_isDay_0), (10, [])]
def Y_M_isDay : Mth := (g_M_isDay, RM, cd_M_isDay)
set_option maxRecDepth 20000 in
theorem ok_M_isDay : okM Y_M_isDay = true := by decide +kernel
theorem en_M_isDay {d : Nat} {u : Mem} {Q : Option MV → Mem → Prop} (as : List MV) (hc : cats as ≤ 1) (h : RunB d Y_M_isDay 0 (argL as 1) [] u Q) : OKm d g_M_isDay as u Q := OKm.of (Y := Y_M_isDay) ok_M_isDay hc h
theorem rb_M_isDay_0 {d : Nat} {L : List (Option MV)} {st : List MV} {u : Mem} {Q : Option MV → Mem → Prop} (h : go d Y_M_isDay Q bk_M_isDay_0 0 L st u) : RunB (d + 1) Y_M_isDay 0 L st u Q := run_go ok_M_isDay (by decide) h
def bk_M_isColumn_0 : List En := [(.iload_n 0, 1, 0, 0, [], g_0), (.i2l, 1, 0, 0, [], g_0), (.lconst 0, 1, 0, 0, [], g_0), (.ldc2_w 140, 3, 5, 0, [957], g_0), (.invokestatic 70, 3, 3, 1, [845, 846, 0, 77, 847], g_M_in), (.ireturn, 1, 0, 1, [], g_0)]
def cd_M_isColumn : Cd := [(0, bk_M_isColumn_0), (10, [])]
def Y_M_isColumn : Mth := (g_M_isColumn, RM, cd_M_isColumn)
set_option maxRecDepth 20000 in
theorem ok_M_isColumn : okM Y_M_isColumn = true := by decide +kernel
theorem en_M_isColumn {d : Nat} {u : Mem} {Q : Option MV → Mem → Prop} (as : List MV) (hc : cats as ≤ 1) (h : RunB d Y_M_isColumn 0 (argL as 1) [] u Q) : OKm d g_M_isColumn as u Q := OKm.of (Y := Y_M_isColumn) ok_M_isColumn hc h
theorem rb_M_isColumn_0 {d : Nat} {L : List (Option MV)} {st : List MV} {u : Mem} {Q : Option MV → Mem → Prop} (h : go d Y_M_isColumn Q bk_M_isColumn_0 0 L st u) : RunB (d + 1) Y_M_isColumn 0 L st u Q := run_go ok_M_isColumn (by decide) h
def bk_M_posterBy_0 : List En := [(.iload_n 2, 1, 2, 0, [], g_0), (.iconst 5, 1, 5, 0, [], g_0), (.if_icmp .ge 16, 3, 1, 0, [], g_0), (.aload_n 0, 1, 0, 0, [], g_0), (.getfield 28, 3, 8, 8, [760], g_0), (.iconst 5, 1, 5, 0, [], g_0), (.iload_n 1, 1, 1, 0, [], g_0), (.imul, 1, 0, 0, [], g_0), (.iload_n 2, 1, 2, 0, [], g_0), (.iadd, 1, 0, 0, [], g_0), (.iaload, 1, 0, 0, [], g_0), (.goto 35, 3, 3, 0, [], g_0)]
def bk_M_posterBy_1 : List En := [(.iload_n 2, 1, 2, 0, [], g_0), (.iconst 5, 1, 5, 0, [], g_0), (.isub, 1, 0, 0, [], g_0), (.aload_n 0, 1, 0, 0, [], g_0), (.getfield 28, 3, 8, 8, [760], g_0), (.iconst 5, 1, 5, 0, [], g_0), (.iload_n 1, 1, 1, 0, [], g_0), (.imul, 1, 0, 0, [], g_0), (.iconst 4, 1, 4, 0, [], g_0), (.iadd, 1, 0, 0, [], g_0), (.iaload, 1, 0, 0, [], g_0), (.if_icmp .ge 18, 3, 2, 0, [], g_0), (.aload_n 0, 1, 0, 0, [], g_0), (.getfield 31, 3, 8, 9, [761], g_0), (.iconst 4, 1, 4, 0, [], g_0), (.iload_n 1, 1, 1, 0, [], g_0), (.imul, 1, 0, 0, [], g_0), (.iload_n 2, 1, 2, 0, [], g_0), (.iadd, 1, 0, 0, [], g_0), (.iconst 5, 1, 5, 0, [], g_0), (.isub, 1, 0, 0, [], g_0), (.iaload, 1, 0, 0, [], g_0), (.goto 4, 3, 3, 0, [], g_0)]
def bk_M_posterBy_2 : List En := [(.iconst (-1), 1, 1, 1, [], g_0)]
def bk_M_posterBy_3 : List En := [(.ireturn, 1, 0, 0, [], g_0)]
def cd_M_posterBy : Cd := [(0, bk_M_posterBy_0), (18, bk_M_posterBy_1), (49, bk_M_posterBy_2), (50, bk_M_posterBy_3), (51, [])]
def Y_M_posterBy : Mth := (g_M_posterBy, RM, cd_M_posterBy)
set_option maxRecDepth 20000 in
theorem ok_M_posterBy : okM Y_M_posterBy = true := by decide +kernel
theorem en_M_posterBy {d : Nat} {u : Mem} {Q : Option MV → Mem → Prop} (as : List MV) (hc : cats as ≤ 3) (h : RunB d Y_M_posterBy 0 (argL as 3) [] u Q) : OKm d g_M_posterBy as u Q := OKm.of (Y := Y_M_posterBy) ok_M_posterBy hc h
theorem rb_M_posterBy_0 {d : Nat} {L : List (Option MV)} {st : List MV} {u : Mem} {Q : Option MV → Mem → Prop} (h : go d Y_M_posterBy Q bk_M_posterBy_0 0 L st u) : RunB (d + 1) Y_M_posterBy 0 L st u Q := run_go ok_M_posterBy (by decide) h
theorem rb_M_posterBy_1 {d : Nat} {L : List (Option MV)} {st : List MV} {u : Mem} {Q : Option MV → Mem → Prop} (h : go d Y_M_posterBy Q bk_M_posterBy_1 1 L st u) : RunB (d + 1) Y_M_posterBy 1 L st u Q := run_go ok_M_posterBy (by decide) h
theorem rb_M_posterBy_2 {d : Nat} {L : List (Option MV)} {st : List MV} {u : Mem} {Q : Option MV → Mem → Prop} (h : go d Y_M_posterBy Q bk_M_posterBy_2 2 L st u) : RunB (d + 1) Y_M_posterBy 2 L st u Q := run_go ok_M_posterBy (by decide) h
theorem rb_M_posterBy_3 {d : Nat} {L : List (Option MV)} {st : List MV} {u : Mem} {Q : Option MV → Mem → Prop} (h : go d Y_M_posterBy Q bk_M_posterBy_3 3 L st u) : RunB (d + 1) Y_M_posterBy 3 L st u Q := run_go ok_M_posterBy (by decide) h
def bk_M_poster_0 : List En := [(.aload_n 0, 1, 0, 0, [], g_0), (.invokevirtual 125, 3, 0, 8, [901, 903, 29, 77, 904], g_M_readsPosters), (.pop, 1, 0, 0, [], g_0), (.aload_n 0, 1, 0, 0, [], g_0), (.iload_n 1, 1, 1, 0, [], g_0), (.invokevirtual 142, 3, 1, 8, [933, 935, 34, 77, 936], g_M_isPoster), (.ifCond .eq 24, 3, 1, 0, [], g_0), (.iload_n 2, 1, 2, 0, [], g_0), (.i2l, 1, 0, 0, [], g_0), (.lconst 0, 1, 0, 0, [], g_0), (.ldc2_w 145, 3, 8, 0, [937], g_0), (.invokestatic 70, 3, 3, 1, [845, 846, 0, 77, 847], g_M_in), (.ifCond .eq 12, 3, 1, 0, [], g_0), (.aload_n 0, 1, 0, 0, [], g_0), (.iload_n 1, 1, 1, 0, [], g_0), (.iload_n 2, 1, 2, 0, [], g_0), (.invokevirtual 147, 3, 2, 8, [938, 940, 35, 77, 941], g_M_posterBy), (.goto 5, 3, 2, 0, [], g_0)]
def bk_M_poster_1 : List En := [(.bipush (-2), 2, 2, 1, [], g_0)]
def bk_M_poster_2 : List En := [(.ireturn, 1, 0, 0, [], g_0)]
def cd_M_poster : Cd := [(0, bk_M_poster_0), (34, bk_M_poster_1), (36, bk_M_poster_2), (37, [])]
def Y_M_poster : Mth := (g_M_poster, RM, cd_M_poster)
set_option maxRecDepth 20000 in
theorem ok_M_poster : okM Y_M_poster = true := by decide +kernel
theorem en_M_poster {d : Nat} {u : Mem} {Q : Option MV → Mem → Prop} (as : List MV) (hc : cats as ≤ 3) (h : RunB d Y_M_poster 0 (argL as 3) [] u Q) : OKm d g_M_poster as u Q := OKm.of (Y := Y_M_poster) ok_M_poster hc h
theorem rb_M_poster_0 {d : Nat} {L : List (Option MV)} {st : List MV} {u : Mem} {Q : Option MV → Mem → Prop} (h : go d Y_M_poster Q bk_M_poster_0 0 L st u) : RunB (d + 1) Y_M_poster 0 L st u Q := run_go ok_M_poster (by decide) h
theorem rb_M_poster_1 {d : Nat} {L : List (Option MV)} {st : List MV} {u : Mem} {Q : Option MV → Mem → Prop} (h : go d Y_M_poster Q bk_M_poster_1 1 L st u) : RunB (d + 1) Y_M_poster 1 L st u Q := run_go ok_M_poster (by decide) h
theorem rb_M_poster_2 {d : Nat} {L : List (Option MV)} {st : List MV} {u : Mem} {Q : Option MV → Mem → Prop} (h : go d Y_M_poster Q bk_M_poster_2 2 L st u) : RunB (d + 1) Y_M_poster 2 L st u Q := run_go ok_M_poster (by decide) h
def bk_M_rain_0 : List En := [(.aload_n 0, 1, 0, 0, [], g_0), (.invokevirtual 129, 3, 0, 8, [913, 915, 30, 77, 916], g_M_readsRains), (.pop, 1, 0, 0, [], g_0), (.iload_n 1, 1, 1, 0, [], g_0), (.invokestatic 150, 3, 1, 1, [946, 947, 0, 77, 948], g_M_isDay), (.ifCond .eq 12, 3, 1, 0, [], g_0), (.aload_n 0, 1, 0, 0, [], g_0), (.getfield 34, 3, 8, 11, [763], g_0), (.iload_n 1, 1, 1, 0, [], g_0), (.iaload, 1, 0, 0, [], g_0), (.goto 5, 3, 2, 0, [], g_0)]
def bk_M_rain_1 : List En := [(.bipush (-2), 2, 2, 1, [], g_0)]
def bk_M_rain_2 : List En := [(.ireturn, 1, 0, 0, [], g_0)]
def cd_M_rain : Cd := [(0, bk_M_rain_0), (21, bk_M_rain_1), (23, bk_M_rain_2), (24, [])]
def Y_M_rain : Mth := (g_M_rain, RM, cd_M_rain)
set_option maxRecDepth 20000 in
theorem ok_M_rain : okM Y_M_rain = true := by decide +kernel
theorem en_M_rain {d : Nat} {u : Mem} {Q : Option MV → Mem → Prop} (as : List MV) (hc : cats as ≤ 2) (h : RunB d Y_M_rain 0 (argL as 2) [] u Q) : OKm d g_M_rain as u Q := OKm.of (Y := Y_M_rain) ok_M_rain hc h
theorem rb_M_rain_0 {d : Nat} {L : List (Option MV)} {st : List MV} {u : Mem} {Q : Option MV → Mem → Prop} (h : go d Y_M_rain Q bk_M_rain_0 0 L st u) : RunB (d + 1) Y_M_rain 0 L st u Q := run_go ok_M_rain (by decide) h
theorem rb_M_rain_1 {d : Nat} {L : List (Option MV)} {st : List MV} {u : Mem} {Q : Option MV → Mem → Prop} (h : go d Y_M_rain Q bk_M_rain_1 1 L st u) : RunB (d + 1) Y_M_rain 1 L st u Q := run_go ok_M_rain (by decide) h
theorem rb_M_rain_2 {d : Nat} {L : List (Option MV)} {st : List MV} {u : Mem} {Q : Option MV → Mem → Prop} (h : go d Y_M_rain Q bk_M_rain_2 2 L st u) : RunB (d + 1) Y_M_rain 2 L st u Q := run_go ok_M_rain (by decide) h
def bk_M_law_0 : List En := [(.aload_n 0, 1, 0, 0, [], g_0), (.invokevirtual 132, 3, 0, 8, [921, 923, 32, 77, 924], g_M_readsLaw), (.pop, 1, 0, 0, [], g_0), (.iload_n 1, 1, 1, 0, [], g_0), (.invokestatic 153, 3, 1, 1, [954, 955, 0, 77, 956], g_M_isColumn), (.ifCond .eq 12, 3, 1, 0, [], g_0), (.aload_n 0, 1, 0, 0, [], g_0), (.getfield 37, 3, 8, 12, [764], g_0), (.iload_n 1, 1, 1, 0, [], g_0), (.iaload, 1, 0, 0, [], g_0), (.goto 5, 3, 2, 0, [], g_0)]
def bk_M_law_1 : List En := [(.bipush (-2), 2, 2, 1, [], g_0)]
def bk_M_law_2 : List En := [(.ireturn, 1, 0, 0, [], g_0)]
def cd_M_law : Cd := [(0, bk_M_law_0), (21, bk_M_law_1), (23, bk_M_law_2), (24, [])]
def Y_M_law : Mth := (g_M_law, RM, cd_M_law)
set_option maxRecDepth 20000 in
theorem ok_M_law : okM Y_M_law = true := by decide +kernel
theorem en_M_law {d : Nat} {u : Mem} {Q : Option MV → Mem → Prop} (as : List MV) (hc : cats as ≤ 2) (h : RunB d Y_M_law 0 (argL as 2) [] u Q) : OKm d g_M_law as u Q := OKm.of (Y := Y_M_law) ok_M_law hc h
theorem rb_M_law_0 {d : Nat} {L : List (Option MV)} {st : List MV} {u : Mem} {Q : Option MV → Mem → Prop} (h : go d Y_M_law Q bk_M_law_0 0 L st u) : RunB (d + 1) Y_M_law 0 L st u Q := run_go ok_M_law (by decide) h
theorem rb_M_law_1 {d : Nat} {L : List (Option MV)} {st : List MV} {u : Mem} {Q : Option MV → Mem → Prop} (h : go d Y_M_law Q bk_M_law_1 1 L st u) : RunB (d + 1) Y_M_law 1 L st u Q := run_go ok_M_law (by decide) h
theorem rb_M_law_2 {d : Nat} {L : List (Option MV)} {st : List MV} {u : Mem} {Q : Option MV → Mem → Prop} (h : go d Y_M_law Q bk_M_law_2 2 L st u) : RunB (d + 1) Y_M_law 2 L st u Q := run_go ok_M_law (by decide) h
def bk_M_tear_0 : List En := [(.iload_n 1, 1, 1, 0, [], g_0), (.invokestatic 150, 3, 1, 1, [946, 947, 0, 77, 948], g_M_isDay), (.ifCond .eq 10, 3, 1, 0, [], g_0), (.iload_n 2, 1, 2, 0, [], g_0), (.invokestatic 153, 3, 1, 1, [954, 955, 0, 77, 956], g_M_isColumn), (.ifCond .ne 6, 3, 2, 0, [], g_0)]
def bk_M_tear_1 : List En := [(.bipush (-2), 2, 2, 1, [], g_0), (.ireturn, 1, 0, 0, [], g_0)]
def bk_M_tear_2 : List En := [(.aload_n 0, 1, 0, 0, [], g_0), (.getfield 156, 3, 8, 13, [765], g_0), (.bipush 8, 2, 8, 0, [], g_0), (.if_icmp .ne 6, 3, 3, 0, [], g_0), (.bipush (-4), 2, 4, 1, [], g_0), (.ireturn, 1, 0, 0, [], g_0)]
def bk_M_tear_3 : List En := [(.aload_n 0, 1, 0, 0, [], g_0), (.getfield 40, 3, 8, 14, [766], g_0), (.iconst 2, 1, 2, 0, [], g_0), (.aload_n 0, 1, 0, 0, [], g_0), (.getfield 156, 3, 8, 13, [765], g_0), (.imul, 1, 0, 0, [], g_0), (.iload_n 1, 1, 1, 0, [], g_0), (.iastore, 1, 0, 0, [], g_0), (.aload_n 0, 1, 0, 0, [], g_0), (.getfield 40, 3, 8, 14, [766], g_0), (.iconst 2, 1, 2, 0, [], g_0), (.aload_n 0, 1, 0, 0, [], g_0), (.getfield 156, 3, 8, 13, [765], g_0), (.imul, 1, 0, 0, [], g_0), (.iconst 1, 1, 1, 0, [], g_0), (.iadd, 1, 0, 0, [], g_0), (.iload_n 2, 1, 2, 0, [], g_0), (.iastore, 1, 0, 0, [], g_0), (.aload_n 0, 1, 0, 0, [], g_0), (.dup, 1, 0, 0, [], g_0), (.getfield 156, 3, 8, 13, [765], g_0), (.iconst 1, 1, 1, 0, [], g_0), (.iadd, 1, 0, 0, [], g_0), (.putfield 156, 3, 8, 13, [765], g_0), (.aload_n 0, 1, 0, 0, [], g_0), (.getfield 156, 3, 8, 13, [765], g_0), (.ireturn, 1, 0, 0, [], g_0)]
def cd_M_tear : Cd := [(0, bk_M_tear_0), (14, bk_M_tear_1), (17, bk_M_tear_2), (29, bk_M_tear_3), (70, [])]
def Y_M_tear : Mth := (g_M_tear, RM, cd_M_tear)
set_option maxRecDepth 20000 in
theorem ok_M_tear : okM Y_M_tear = true := by decide +kernel
theorem en_M_tear {d : Nat} {u : Mem} {Q : Option MV → Mem → Prop} (as : List MV) (hc : cats as ≤ 3) (h : RunB d Y_M_tear 0 (argL as 3) [] u Q) : OKm d g_M_tear as u Q := OKm.of (Y := Y_M_tear) ok_M_tear hc h
theorem rb_M_tear_0 {d : Nat} {L : List (Option MV)} {st : List MV} {u : Mem} {Q : Option MV → Mem → Prop} (h : go d Y_M_tear Q bk_M_tear_0 0 L st u) : RunB (d + 1) Y_M_tear 0 L st u Q := run_go ok_M_tear (by decide) h
theorem rb_M_tear_1 {d : Nat} {L : List (Option MV)} {st : List MV} {u : Mem} {Q : Option MV → Mem → Prop} (h : go d Y_M_tear Q bk_M_tear_1 1 L st u) : RunB (d + 1) Y_M_tear 1 L st u Q := run_go ok_M_tear (by decide) h
theorem rb_M_tear_2 {d : Nat} {L : List (Option MV)} {st : List MV} {u : Mem} {Q : Option MV → Mem → Prop} (h : go d Y_M_tear Q bk_M_tear_2 2 L st u) : RunB (d + 1) Y_M_tear 2 L st u Q := run_go ok_M_tear (by decide) h
theorem rb_M_tear_3 {d : Nat} {L : List (Option MV)} {st : List MV} {u : Mem} {Q : Option MV → Mem → Prop} (h : go d Y_M_tear Q bk_M_tear_3 3 L st u) : RunB (d + 1) Y_M_tear 3 L st u Q := run_go ok_M_tear (by decide) h
def bk_M_back_0 : List En := [(.aload_n 0, 1, 0, 0, [], g_0), (.getfield 156, 3, 8, 13, [765], g_0), (.ifCond .ne 6, 3, 1, 0, [], g_0), (.bipush (-3), 2, 3, 1, [], g_0), (.ireturn, 1, 0, 0, [], g_0)]
def bk_M_back_1 : List En := [(.aload_n 0, 1, 0, 0, [], g_0), (.dup, 1, 0, 0, [], g_0), (.getfield 156, 3, 8, 13, [765], g_0), (.iconst 1, 1, 1, 0, [], g_0), (.isub, 1, 0, 0, [], g_0), (.putfield 156, 3, 8, 13, [765], g_0), (.aload_n 0, 1, 0, 0, [], g_0), (.getfield 156, 3, 8, 13, [765], g_0), (.ireturn, 1, 0, 0, [], g_0)]
def cd_M_back : Cd := [(0, bk_M_back_0), (10, bk_M_back_1), (25, [])]
def Y_M_back : Mth := (g_M_back, RM, cd_M_back)
set_option maxRecDepth 20000 in
theorem ok_M_back : okM Y_M_back = true := by decide +kernel
theorem en_M_back {d : Nat} {u : Mem} {Q : Option MV → Mem → Prop} (as : List MV) (hc : cats as ≤ 1) (h : RunB d Y_M_back 0 (argL as 1) [] u Q) : OKm d g_M_back as u Q := OKm.of (Y := Y_M_back) ok_M_back hc h
theorem rb_M_back_0 {d : Nat} {L : List (Option MV)} {st : List MV} {u : Mem} {Q : Option MV → Mem → Prop} (h : go d Y_M_back Q bk_M_back_0 0 L st u) : RunB (d + 1) Y_M_back 0 L st u Q := run_go ok_M_back (by decide) h
theorem rb_M_back_1 {d : Nat} {L : List (Option MV)} {st : List MV} {u : Mem} {Q : Option MV → Mem → Prop} (h : go d Y_M_back Q bk_M_back_1 1 L st u) : RunB (d + 1) Y_M_back 1 L st u Q := run_go ok_M_back (by decide) h
def bk_M_read_0 : List En := [(.iload_n 1, 1, 1, 0, [], g_0), (.invokestatic 79, 3, 1, 1, [841, 842, 0, 77, 843], g_M_isSheet), (.ifCond .ne 6, 3, 1, 0, [], g_0), (.bipush (-2), 2, 2, 1, [], g_0), (.ireturn, 1, 0, 0, [], g_0)]
def bk_M_read_1 : List En := [(.aload_n 0, 1, 0, 0, [], g_0), (.getfield 7, 3, 8, 0, [752], g_0), (.iload_n 1, 1, 1, 0, [], g_0), (.iaload, 1, 0, 0, [], g_0), (.ifCond .ge 9, 3, 2, 0, [], g_0), (.aload_n 0, 1, 0, 0, [], g_0), (.iconst 1, 1, 1, 0, [], g_0), (.invokevirtual 85, 3, 1, 8, [849, 851, 26, 77, 852], g_M_finds), (.ireturn, 1, 0, 0, [], g_0)]
def bk_M_read_2 : List En := [(.iconst 0, 1, 0, 0, [], g_0), (.istore_n 2, 1, 2, 0, [], g_0), (.iconst 1, 1, 1, 0, [], g_0), (.istore_n 3, 1, 3, 0, [], g_0)]
def bk_M_read_3 : List En := [(.iload_n 3, 1, 3, 0, [], g_0), (.ifCond .eq 73, 3, 8, 0, [], g_0), (.iconst 2, 1, 2, 0, [], g_0), (.iload_n 2, 1, 2, 0, [], g_0), (.imul, 1, 0, 0, [], g_0), (.iconst 2, 1, 2, 0, [], g_0), (.iadd, 1, 0, 0, [], g_0), (.aload_n 0, 1, 0, 0, [], g_0), (.getfield 13, 3, 8, 1, [753], g_0), (.iload_n 1, 1, 1, 0, [], g_0), (.iaload, 1, 0, 0, [], g_0), (.if_icmp .gt 59, 3, 8, 0, [], g_0), (.aload_n 0, 1, 0, 0, [], g_0), (.aload_n 0, 1, 0, 0, [], g_0), (.getfield 16, 3, 8, 2, [754], g_0), (.bipush 60, 2, 60, 0, [], g_0), (.iload_n 1, 1, 1, 0, [], g_0), (.imul, 1, 0, 0, [], g_0), (.iconst 2, 1, 2, 0, [], g_0), (.iload_n 2, 1, 2, 0, [], g_0), (.imul, 1, 0, 0, [], g_0), (.iadd, 1, 0, 0, [], g_0), (.iaload, 1, 0, 0, [], g_0), (.aload_n 0, 1, 0, 0, [], g_0), (.getfield 16, 3, 8, 2, [754], g_0), (.bipush 60, 2, 60, 0, [], g_0), (.iload_n 1, 1, 1, 0, [], g_0), (.imul, 1, 0, 0, [], g_0), (.iconst 2, 1, 2, 0, [], g_0), (.iload_n 2, 1, 2, 0, [], g_0), (.imul, 1, 0, 0, [], g_0), (.iadd, 1, 0, 0, [], g_0), (.iconst 1, 1, 1, 0, [], g_0), (.iadd, 1, 0, 0, [], g_0), (.iaload, 1, 0, 0, [], g_0), (.invokevirtual 159, 3, 2, 8, [970, 959, 960, 77, 961], g_M_tear), (.ifCond .lt 7, 3, 4, 0, [], g_0), (.iconst 1, 1, 1, 0, [], g_0), (.goto 4, 3, 5, 0, [], g_0)]
def bk_M_read_4 : List En := [(.iconst 0, 1, 0, 0, [], g_0)]
def bk_M_read_5 : List En := [(.istore_n 3, 1, 3, 0, [], g_0), (.iload_n 2, 1, 2, 0, [], g_0), (.iload_n 3, 1, 3, 0, [], g_0), (.ifCond .eq 7, 3, 6, 0, [], g_0), (.iconst 1, 1, 1, 0, [], g_0), (.goto 4, 3, 7, 0, [], g_0)]
def bk_M_read_6 : List En := [(.iconst 0, 1, 0, 0, [], g_0)]
def bk_M_read_7 : List En := [(.iadd, 1, 0, 0, [], g_0), (.istore_n 2, 1, 2, 0, [], g_0), (.goto (-71), 3, 3, 0, [], g_0)]
def bk_M_read_8 : List En := [(.iload_n 2, 1, 2, 0, [], g_0), (.ireturn, 1, 0, 0, [], g_0)]
def cd_M_read : Cd := [(0, bk_M_read_0), (10, bk_M_read_1), (25, bk_M_read_2), (29, bk_M_read_3), (86, bk_M_read_4), (87, bk_M_read_5), (97, bk_M_read_6), (98, bk_M_read_7), (103, bk_M_read_8), (105, [])]
def Y_M_read : Mth := (g_M_read, RM, cd_M_read)
set_option maxRecDepth 20000 in
theorem ok_M_read : okM Y_M_read = true := by decide +kernel
theorem en_M_read {d : Nat} {u : Mem} {Q : Option MV → Mem → Prop} (as : List MV) (hc : cats as ≤ 4) (h : RunB d Y_M_read 0 (argL as 4) [] u Q) : OKm d g_M_read as u Q := OKm.of (Y := Y_M_read) ok_M_read hc h
theorem rb_M_read_0 {d : Nat} {L : List (Option MV)} {st : List MV} {u : Mem} {Q : Option MV → Mem → Prop} (h : go d Y_M_read Q bk_M_read_0 0 L st u) : RunB (d + 1) Y_M_read 0 L st u Q := run_go ok_M_read (by decide) h
theorem rb_M_read_1 {d : Nat} {L : List (Option MV)} {st : List MV} {u : Mem} {Q : Option MV → Mem → Prop} (h : go d Y_M_read Q bk_M_read_1 1 L st u) : RunB (d + 1) Y_M_read 1 L st u Q := run_go ok_M_read (by decide) h
theorem rb_M_read_2 {d : Nat} {L : List (Option MV)} {st : List MV} {u : Mem} {Q : Option MV → Mem → Prop} (h : go d Y_M_read Q bk_M_read_2 2 L st u) : RunB (d + 1) Y_M_read 2 L st u Q := run_go ok_M_read (by decide) h
theorem rb_M_read_3 {d : Nat} {L : List (Option MV)} {st : List MV} {u : Mem} {Q : Option MV → Mem → Prop} (h : go d Y_M_read Q bk_M_read_3 3 L st u) : RunB (d + 1) Y_M_read 3 L st u Q := run_go ok_M_read (by decide) h
theorem rb_M_read_4 {d : Nat} {L : List (Option MV)} {st : List MV} {u : Mem} {Q : Option MV → Mem → Prop} (h : go d Y_M_read Q bk_M_read_4 4 L st u) : RunB (d + 1) Y_M_read 4 L st u Q := run_go ok_M_read (by decide) h
theorem rb_M_read_5 {d : Nat} {L : List (Option MV)} {st : List MV} {u : Mem} {Q : Option MV → Mem → Prop} (h : go d Y_M_read Q bk_M_read_5 5 L st u) : RunB (d + 1) Y_M_read 5 L st u Q := run_go ok_M_read (by decide) h
theorem rb_M_read_6 {d : Nat} {L : List (Option MV)} {st : List MV} {u : Mem} {Q : Option MV → Mem → Prop} (h : go d Y_M_read Q bk_M_read_6 6 L st u) : RunB (d + 1) Y_M_read 6 L st u Q := run_go ok_M_read (by decide) h
theorem rb_M_read_7 {d : Nat} {L : List (Option MV)} {st : List MV} {u : Mem} {Q : Option MV → Mem → Prop} (h : go d Y_M_read Q bk_M_read_7 7 L st u) : RunB (d + 1) Y_M_read 7 L st u Q := run_go ok_M_read (by decide) h
theorem rb_M_read_8 {d : Nat} {L : List (Option MV)} {st : List MV} {u : Mem} {Q : Option MV → Mem → Prop} (h : go d Y_M_read Q bk_M_read_8 8 L st u) : RunB (d + 1) Y_M_read 8 L st u Q := run_go ok_M_read (by decide) h
def bk_M_isTorn_0 : List En := [(.aload_n 0, 1, 0, 0, [], g_0), (.getfield 43, 3, 8, 19, [771], g_0), (.iload_n 1, 1, 1, 0, [], g_0), (.dup2, 1, 0, 0, [], g_0), (.iaload, 1, 0, 0, [], g_0), (.aload_n 0, 1, 0, 0, [], g_0), (.getfield 43, 3, 8, 19, [771], g_0), (.iload_n 1, 1, 1, 0, [], g_0), (.iaload, 1, 0, 0, [], g_0), (.ifCond .le 7, 3, 1, 0, [], g_0), (.iconst 1, 1, 1, 0, [], g_0), (.goto 4, 3, 2, 0, [], g_0)]
def bk_M_isTorn_1 : List En := [(.iconst 0, 1, 0, 0, [], g_0)]
def bk_M_isTorn_2 : List En := [(.isub, 1, 0, 0, [], g_0), (.iastore, 1, 0, 0, [], g_0), (.return_, 1, 0, 0, [], g_0)]
def cd_M_isTorn : Cd := [(0, bk_M_isTorn_0), (20, bk_M_isTorn_1), (21, bk_M_isTorn_2), (24, [])]
def Y_M_isTorn : Mth := (g_M_isTorn, RM, cd_M_isTorn)
set_option maxRecDepth 20000 in
theorem ok_M_isTorn : okM Y_M_isTorn = true := by decide +kernel
theorem en_M_isTorn {d : Nat} {u : Mem} {Q : Option MV → Mem → Prop} (as : List MV) (hc : cats as ≤ 2) (h : RunB d Y_M_isTorn 0 (argL as 2) [] u Q) : OKm d g_M_isTorn as u Q := OKm.of (Y := Y_M_isTorn) ok_M_isTorn hc h
theorem rb_M_isTorn_0 {d : Nat} {L : List (Option MV)} {st : List MV} {u : Mem} {Q : Option MV → Mem → Prop} (h : go d Y_M_isTorn Q bk_M_isTorn_0 0 L st u) : RunB (d + 1) Y_M_isTorn 0 L st u Q := run_go ok_M_isTorn (by decide) h
theorem rb_M_isTorn_1 {d : Nat} {L : List (Option MV)} {st : List MV} {u : Mem} {Q : Option MV → Mem → Prop} (h : go d Y_M_isTorn Q bk_M_isTorn_1 1 L st u) : RunB (d + 1) Y_M_isTorn 1 L st u Q := run_go ok_M_isTorn (by decide) h
theorem rb_M_isTorn_2 {d : Nat} {L : List (Option MV)} {st : List MV} {u : Mem} {Q : Option MV → Mem → Prop} (h : go d Y_M_isTorn Q bk_M_isTorn_2 2 L st u) : RunB (d + 1) Y_M_isTorn 2 L st u Q := run_go ok_M_isTorn (by decide) h
def bk_M_tearsOff_0 : List En := [(.iconst 0, 1, 0, 0, [], g_0), (.istore_n 2, 1, 2, 0, [], g_0)]
def bk_M_tearsOff_1 : List En := [(.iload_n 2, 1, 2, 0, [], g_0), (.aload_n 0, 1, 0, 0, [], g_0), (.getfield 156, 3, 8, 13, [765], g_0), (.if_icmp .ge 46, 3, 3, 0, [], g_0), (.aload_n 0, 1, 0, 0, [], g_0), (.getfield 40, 3, 8, 14, [766], g_0), (.iconst 2, 1, 2, 0, [], g_0), (.iload_n 2, 1, 2, 0, [], g_0), (.imul, 1, 0, 0, [], g_0), (.iaload, 1, 0, 0, [], g_0), (.iload_n 1, 1, 1, 0, [], g_0), (.if_icmp .ne 28, 3, 2, 0, [], g_0), (.aload_n 0, 1, 0, 0, [], g_0), (.getfield 161, 3, 8, 15, [767], g_0), (.iload_n 2, 1, 2, 0, [], g_0), (.invokestatic 164, 3, 2, 1, [987, 988, 0, 77, 989], g_M_isIn), (.ifCond .ne 17, 3, 2, 0, [], g_0), (.aload_n 0, 1, 0, 0, [], g_0), (.aload_n 0, 1, 0, 0, [], g_0), (.getfield 40, 3, 8, 14, [766], g_0), (.iconst 2, 1, 2, 0, [], g_0), (.iload_n 2, 1, 2, 0, [], g_0), (.imul, 1, 0, 0, [], g_0), (.iconst 1, 1, 1, 0, [], g_0), (.iadd, 1, 0, 0, [], g_0), (.iaload, 1, 0, 0, [], g_0), (.invokevirtual 168, 3, 1, 8, [990, 992, 39, 77, 993], g_M_isTorn)]
def bk_M_tearsOff_2 : List En := [(.iinc 2 1, 3, 2, 1, [0], g_0), (.goto (-48), 3, 1, 0, [], g_0)]
def bk_M_tearsOff_3 : List En := [(.aload_n 0, 1, 0, 0, [], g_0), (.getfield 64, 3, 8, 16, [768], g_0), (.iload_n 1, 1, 1, 0, [], g_0), (.if_icmp .ne 35, 3, 5, 0, [], g_0), (.aload_n 0, 1, 0, 0, [], g_0), (.getfield 172, 3, 8, 17, [769], g_0), (.iconst (-1), 1, 1, 1, [], g_0), (.if_icmp .eq 11, 3, 4, 0, [], g_0), (.aload_n 0, 1, 0, 0, [], g_0), (.aload_n 0, 1, 0, 0, [], g_0), (.getfield 172, 3, 8, 17, [769], g_0), (.invokevirtual 168, 3, 1, 8, [990, 992, 39, 77, 993], g_M_isTorn)]
def bk_M_tearsOff_4 : List En := [(.aload_n 0, 1, 0, 0, [], g_0), (.getfield 175, 3, 8, 18, [770], g_0), (.iconst (-1), 1, 1, 1, [], g_0), (.if_icmp .eq 11, 3, 5, 0, [], g_0), (.aload_n 0, 1, 0, 0, [], g_0), (.aload_n 0, 1, 0, 0, [], g_0), (.getfield 175, 3, 8, 18, [770], g_0), (.invokevirtual 168, 3, 1, 8, [990, 992, 39, 77, 993], g_M_isTorn)]
def bk_M_tearsOff_5 : List En := [(.return_, 1, 0, 0, [], g_0)]
def cd_M_tearsOff : Cd := [(0, bk_M_tearsOff_0), (2, bk_M_tearsOff_1), (47, bk_M_tearsOff_2), (53, bk_M_tearsOff_3), (77, bk_M_tearsOff_4), (93, bk_M_tearsOff_5), (94, [])]
def Y_M_tearsOff : Mth := (g_M_tearsOff, RM, cd_M_tearsOff)
set_option maxRecDepth 20000 in
theorem ok_M_tearsOff : okM Y_M_tearsOff = true := by decide +kernel
theorem en_M_tearsOff {d : Nat} {u : Mem} {Q : Option MV → Mem → Prop} (as : List MV) (hc : cats as ≤ 3) (h : RunB d Y_M_tearsOff 0 (argL as 3) [] u Q) : OKm d g_M_tearsOff as u Q := OKm.of (Y := Y_M_tearsOff) ok_M_tearsOff hc h
theorem rb_M_tearsOff_0 {d : Nat} {L : List (Option MV)} {st : List MV} {u : Mem} {Q : Option MV → Mem → Prop} (h : go d Y_M_tearsOff Q bk_M_tearsOff_0 0 L st u) : RunB (d + 1) Y_M_tearsOff 0 L st u Q := run_go ok_M_tearsOff (by decide) h
theorem rb_M_tearsOff_1 {d : Nat} {L : List (Option MV)} {st : List MV} {u : Mem} {Q : Option MV → Mem → Prop} (h : go d Y_M_tearsOff Q bk_M_tearsOff_1 1 L st u) : RunB (d + 1) Y_M_tearsOff 1 L st u Q := run_go ok_M_tearsOff (by decide) h
theorem rb_M_tearsOff_2 {d : Nat} {L : List (Option MV)} {st : List MV} {u : Mem} {Q : Option MV → Mem → Prop} (h : go d Y_M_tearsOff Q bk_M_tearsOff_2 2 L st u) : RunB (d + 1) Y_M_tearsOff 2 L st u Q := run_go ok_M_tearsOff (by decide) h
theorem rb_M_tearsOff_3 {d : Nat} {L : List (Option MV)} {st : List MV} {u : Mem} {Q : Option MV → Mem → Prop} (h : go d Y_M_tearsOff Q bk_M_tearsOff_3 3 L st u) : RunB (d + 1) Y_M_tearsOff 3 L st u Q := run_go ok_M_tearsOff (by decide) h
theorem rb_M_tearsOff_4 {d : Nat} {L : List (Option MV)} {st : List MV} {u : Mem} {Q : Option MV → Mem → Prop} (h : go d Y_M_tearsOff Q bk_M_tearsOff_4 4 L st u) : RunB (d + 1) Y_M_tearsOff 4 L st u Q := run_go ok_M_tearsOff (by decide) h
theorem rb_M_tearsOff_5 {d : Nat} {L : List (Option MV)} {st : List MV} {u : Mem} {Q : Option MV → Mem → Prop} (h : go d Y_M_tearsOff Q bk_M_tearsOff_5 5 L st u) : RunB (d + 1) Y_M_tearsOff 5 L st u Q := run_go ok_M_tearsOff (by decide) h
def bk_M_sticks_0 : List En := [(.iconst 0, 1, 0, 0, [], g_0), (.istore_n 2, 1, 2, 0, [], g_0)]
def bk_M_sticks_1 : List En := [(.iload_n 2, 1, 2, 0, [], g_0), (.aload_n 0, 1, 0, 0, [], g_0), (.getfield 28, 3, 8, 8, [760], g_0), (.iconst 5, 1, 5, 0, [], g_0), (.iload_n 1, 1, 1, 0, [], g_0), (.imul, 1, 0, 0, [], g_0), (.iconst 4, 1, 4, 0, [], g_0), (.iadd, 1, 0, 0, [], g_0), (.iaload, 1, 0, 0, [], g_0), (.if_icmp .ge 73, 3, 3, 0, [], g_0), (.aload_n 0, 1, 0, 0, [], g_0), (.getfield 28, 3, 8, 8, [760], g_0), (.iconst 5, 1, 5, 0, [], g_0), (.iload_n 1, 1, 1, 0, [], g_0), (.imul, 1, 0, 0, [], g_0), (.iconst 1, 1, 1, 0, [], g_0), (.iadd, 1, 0, 0, [], g_0), (.iaload, 1, 0, 0, [], g_0), (.iload_n 2, 1, 2, 0, [], g_0), (.iadd, 1, 0, 0, [], g_0), (.istore_n 3, 1, 3, 0, [], g_0), (.iload_n 3, 1, 3, 0, [], g_0), (.bipush 6, 2, 6, 0, [], g_0), (.if_icmp .ge 48, 3, 2, 0, [], g_0), (.aload_n 0, 1, 0, 0, [], g_0), (.getfield 46, 3, 8, 20, [772], g_0), (.bipush 8, 2, 8, 0, [], g_0), (.iload_n 3, 1, 3, 0, [], g_0), (.imul, 1, 0, 0, [], g_0), (.aload_n 0, 1, 0, 0, [], g_0), (.getfield 43, 3, 8, 19, [771], g_0), (.iload_n 3, 1, 3, 0, [], g_0), (.iaload, 1, 0, 0, [], g_0), (.iadd, 1, 0, 0, [], g_0), (.iload_n 1, 1, 1, 0, [], g_0), (.iastore, 1, 0, 0, [], g_0), (.aload_n 0, 1, 0, 0, [], g_0), (.getfield 49, 3, 8, 21, [773], g_0), (.bipush 8, 2, 8, 0, [], g_0), (.iload_n 3, 1, 3, 0, [], g_0), (.imul, 1, 0, 0, [], g_0), (.aload_n 0, 1, 0, 0, [], g_0), (.getfield 43, 3, 8, 19, [771], g_0), (.iload_n 3, 1, 3, 0, [], g_0), (.iaload, 1, 0, 0, [], g_0), (.iadd, 1, 0, 0, [], g_0), (.bipush 9, 2, 9, 0, [], g_0), (.iastore, 1, 0, 0, [], g_0), (.aload_n 0, 1, 0, 0, [], g_0), (.getfield 43, 3, 8, 19, [771], g_0), (.iload_n 3, 1, 3, 0, [], g_0), (.dup2, 1, 0, 0, [], g_0), (.iaload, 1, 0, 0, [], g_0), (.iconst 1, 1, 1, 0, [], g_0), (.iadd, 1, 0, 0, [], g_0), (.iastore, 1, 0, 0, [], g_0)]
def bk_M_sticks_2 : List En := [(.iinc 2 1, 3, 2, 1, [0], g_0), (.goto (-81), 3, 1, 0, [], g_0)]
def bk_M_sticks_3 : List En := [(.return_, 1, 0, 0, [], g_0)]
def cd_M_sticks : Cd := [(0, bk_M_sticks_0), (2, bk_M_sticks_1), (80, bk_M_sticks_2), (86, bk_M_sticks_3), (87, [])]
def Y_M_sticks : Mth := (g_M_sticks, RM, cd_M_sticks)
set_option maxRecDepth 20000 in
theorem ok_M_sticks : okM Y_M_sticks = true := by decide +kernel
theorem en_M_sticks {d : Nat} {u : Mem} {Q : Option MV → Mem → Prop} (as : List MV) (hc : cats as ≤ 4) (h : RunB d Y_M_sticks 0 (argL as 4) [] u Q) : OKm d g_M_sticks as u Q := OKm.of (Y := Y_M_sticks) ok_M_sticks hc h
theorem rb_M_sticks_0 {d : Nat} {L : List (Option MV)} {st : List MV} {u : Mem} {Q : Option MV → Mem → Prop} (h : go d Y_M_sticks Q bk_M_sticks_0 0 L st u) : RunB (d + 1) Y_M_sticks 0 L st u Q := run_go ok_M_sticks (by decide) h
theorem rb_M_sticks_1 {d : Nat} {L : List (Option MV)} {st : List MV} {u : Mem} {Q : Option MV → Mem → Prop} (h : go d Y_M_sticks Q bk_M_sticks_1 1 L st u) : RunB (d + 1) Y_M_sticks 1 L st u Q := run_go ok_M_sticks (by decide) h
theorem rb_M_sticks_2 {d : Nat} {L : List (Option MV)} {st : List MV} {u : Mem} {Q : Option MV → Mem → Prop} (h : go d Y_M_sticks Q bk_M_sticks_2 2 L st u) : RunB (d + 1) Y_M_sticks 2 L st u Q := run_go ok_M_sticks (by decide) h
theorem rb_M_sticks_3 {d : Nat} {L : List (Option MV)} {st : List MV} {u : Mem} {Q : Option MV → Mem → Prop} (h : go d Y_M_sticks Q bk_M_sticks_3 3 L st u) : RunB (d + 1) Y_M_sticks 3 L st u Q := run_go ok_M_sticks (by decide) h
def bk_M_thickOf_0 : List En := [(.aload_n 0, 1, 0, 0, [], g_0), (.getfield 28, 3, 8, 8, [760], g_0), (.iconst 5, 1, 5, 0, [], g_0), (.aload_n 0, 1, 0, 0, [], g_0), (.getfield 46, 3, 8, 20, [772], g_0), (.bipush 8, 2, 8, 0, [], g_0), (.iload_n 1, 1, 1, 0, [], g_0), (.imul, 1, 0, 0, [], g_0), (.iload_n 2, 1, 2, 0, [], g_0), (.iadd, 1, 0, 0, [], g_0), (.iaload, 1, 0, 0, [], g_0), (.imul, 1, 0, 0, [], g_0), (.iconst 3, 1, 3, 0, [], g_0), (.iadd, 1, 0, 0, [], g_0), (.iaload, 1, 0, 0, [], g_0), (.ireturn, 1, 0, 0, [], g_0)]
def cd_M_thickOf : Cd := [(0, bk_M_thickOf_0), (21, [])]
def Y_M_thickOf : Mth := (g_M_thickOf, RM, cd_M_thickOf)
set_option maxRecDepth 20000 in
theorem ok_M_thickOf : okM Y_M_thickOf = true := by decide +kernel
theorem en_M_thickOf {d : Nat} {u : Mem} {Q : Option MV → Mem → Prop} (as : List MV) (hc : cats as ≤ 3) (h : RunB d Y_M_thickOf 0 (argL as 3) [] u Q) : OKm d g_M_thickOf as u Q := OKm.of (Y := Y_M_thickOf) ok_M_thickOf hc h
theorem rb_M_thickOf_0 {d : Nat} {L : List (Option MV)} {st : List MV} {u : Mem} {Q : Option MV → Mem → Prop} (h : go d Y_M_thickOf Q bk_M_thickOf_0 0 L st u) : RunB (d + 1) Y_M_thickOf 0 L st u Q := run_go ok_M_thickOf (by decide) h
def bk_M_reads_0 : List En := [(.aload_n 0, 1, 0, 0, [], g_0), (.getfield 34, 3, 8, 11, [763], g_0), (.iload_n 1, 1, 1, 0, [], g_0), (.iaload, 1, 0, 0, [], g_0), (.istore_n 3, 1, 3, 0, [], g_0), (.aload_n 0, 1, 0, 0, [], g_0), (.getfield 43, 3, 8, 19, [771], g_0), (.iload_n 2, 1, 2, 0, [], g_0), (.iaload, 1, 0, 0, [], g_0), (.iconst 1, 1, 1, 0, [], g_0), (.isub, 1, 0, 0, [], g_0), (.istore 4, 2, 4, 0, [], g_0)]
def bk_M_reads_1 : List En := [(.iload 4, 2, 4, 0, [], g_0), (.ifCond .le 30, 3, 2, 0, [], g_0), (.iload_n 3, 1, 3, 0, [], g_0), (.aload_n 0, 1, 0, 0, [], g_0), (.iload_n 2, 1, 2, 0, [], g_0), (.iload 4, 2, 4, 0, [], g_0), (.invokevirtual 178, 3, 2, 8, [1002, 1004, 42, 77, 1005], g_M_thickOf), (.if_icmp .lt 19, 3, 2, 0, [], g_0), (.iload_n 3, 1, 3, 0, [], g_0), (.aload_n 0, 1, 0, 0, [], g_0), (.iload_n 2, 1, 2, 0, [], g_0), (.iload 4, 2, 4, 0, [], g_0), (.invokevirtual 178, 3, 2, 8, [1002, 1004, 42, 77, 1005], g_M_thickOf), (.isub, 1, 0, 0, [], g_0), (.istore_n 3, 1, 3, 0, [], g_0), (.iinc 4 (-1), 3, 4, 1, [1], g_0), (.goto (-29), 3, 1, 0, [], g_0)]
def bk_M_reads_2 : List En := [(.iconst 0, 1, 0, 0, [], g_0), (.istore 5, 2, 5, 0, [], g_0), (.iconst 0, 1, 0, 0, [], g_0), (.istore 6, 2, 6, 0, [], g_0)]
def bk_M_reads_3 : List En := [(.iload 6, 2, 6, 0, [], g_0), (.aload_n 0, 1, 0, 0, [], g_0), (.getfield 43, 3, 8, 19, [771], g_0), (.iload_n 2, 1, 2, 0, [], g_0), (.iaload, 1, 0, 0, [], g_0), (.if_icmp .ge 21, 3, 4, 0, [], g_0), (.iload 5, 2, 5, 0, [], g_0), (.aload_n 0, 1, 0, 0, [], g_0), (.iload_n 2, 1, 2, 0, [], g_0), (.iload 6, 2, 6, 0, [], g_0), (.invokevirtual 178, 3, 2, 8, [1002, 1004, 42, 77, 1005], g_M_thickOf), (.iadd, 1, 0, 0, [], g_0), (.istore 5, 2, 5, 0, [], g_0), (.iinc 6 1, 3, 6, 1, [0], g_0), (.goto (-26), 3, 3, 0, [], g_0)]
def bk_M_reads_4 : List En := [(.bipush 36, 2, 36, 0, [], g_0), (.iload_n 1, 1, 1, 0, [], g_0), (.imul, 1, 0, 0, [], g_0), (.bipush 6, 2, 6, 0, [], g_0), (.iload_n 2, 1, 2, 0, [], g_0), (.imul, 1, 0, 0, [], g_0), (.iadd, 1, 0, 0, [], g_0), (.istore 6, 2, 6, 0, [], g_0), (.iload 4, 2, 4, 0, [], g_0), (.ifCond .lt 7, 3, 5, 0, [], g_0), (.iconst 1, 1, 1, 0, [], g_0), (.goto 4, 3, 6, 0, [], g_0)]
def bk_M_reads_5 : List En := [(.iconst 0, 1, 0, 0, [], g_0)]
def bk_M_reads_6 : List En := [(.istore 7, 2, 7, 0, [], g_0), (.iload 7, 2, 7, 0, [], g_0), (.ifCond .eq 18, 3, 7, 0, [], g_0), (.aload_n 0, 1, 0, 0, [], g_0), (.getfield 46, 3, 8, 20, [772], g_0), (.bipush 8, 2, 8, 0, [], g_0), (.iload_n 2, 1, 2, 0, [], g_0), (.imul, 1, 0, 0, [], g_0), (.iload 4, 2, 4, 0, [], g_0), (.iadd, 1, 0, 0, [], g_0), (.iaload, 1, 0, 0, [], g_0), (.goto 4, 3, 8, 0, [], g_0)]
def bk_M_reads_7 : List En := [(.iconst (-1), 1, 1, 1, [], g_0)]
def bk_M_reads_8 : List En := [(.istore 8, 2, 8, 0, [], g_0), (.iload 7, 2, 7, 0, [], g_0), (.ifCond .eq 18, 3, 9, 0, [], g_0), (.aload_n 0, 1, 0, 0, [], g_0), (.getfield 49, 3, 8, 21, [773], g_0), (.bipush 8, 2, 8, 0, [], g_0), (.iload_n 2, 1, 2, 0, [], g_0), (.imul, 1, 0, 0, [], g_0), (.iload 4, 2, 4, 0, [], g_0), (.iadd, 1, 0, 0, [], g_0), (.iaload, 1, 0, 0, [], g_0), (.goto 4, 3, 10, 0, [], g_0)]
def bk_M_reads_9 : List En := [(.iconst 0, 1, 0, 0, [], g_0)]
def bk_M_reads_10 : List En := [(.istore 9, 2, 9, 0, [], g_0), (.aload_n 0, 1, 0, 0, [], g_0), (.getfield 52, 3, 8, 22, [774], g_0), (.iload 6, 2, 6, 0, [], g_0), (.iload 9, 2, 9, 0, [], g_0), (.ifCond .le 29, 3, 11, 0, [], g_0), (.aload_n 0, 1, 0, 0, [], g_0), (.getfield 31, 3, 8, 9, [761], g_0), (.iconst 4, 1, 4, 0, [], g_0), (.iload 8, 2, 8, 0, [], g_0), (.imul, 1, 0, 0, [], g_0), (.iload_n 2, 1, 2, 0, [], g_0), (.iadd, 1, 0, 0, [], g_0), (.aload_n 0, 1, 0, 0, [], g_0), (.getfield 28, 3, 8, 8, [760], g_0), (.iconst 5, 1, 5, 0, [], g_0), (.iload 8, 2, 8, 0, [], g_0), (.imul, 1, 0, 0, [], g_0), (.iconst 1, 1, 1, 0, [], g_0), (.iadd, 1, 0, 0, [], g_0), (.iaload, 1, 0, 0, [], g_0), (.isub, 1, 0, 0, [], g_0), (.iaload, 1, 0, 0, [], g_0), (.goto 4, 3, 12, 0, [], g_0)]
def bk_M_reads_11 : List En := [(.iconst (-1), 1, 1, 1, [], g_0)]
def bk_M_reads_12 : List En := [(.iastore, 1, 0, 0, [], g_0), (.aload_n 0, 1, 0, 0, [], g_0), (.getfield 52, 3, 8, 22, [774], g_0), (.iload 6, 2, 6, 0, [], g_0), (.iconst 1, 1, 1, 0, [], g_0), (.iadd, 1, 0, 0, [], g_0), (.iload 8, 2, 8, 0, [], g_0), (.iastore, 1, 0, 0, [], g_0), (.aload_n 0, 1, 0, 0, [], g_0), (.getfield 52, 3, 8, 22, [774], g_0), (.iload 6, 2, 6, 0, [], g_0), (.iconst 2, 1, 2, 0, [], g_0), (.iadd, 1, 0, 0, [], g_0), (.iload 7, 2, 7, 0, [], g_0), (.ifCond .eq 17, 3, 13, 0, [], g_0), (.aload_n 0, 1, 0, 0, [], g_0), (.getfield 43, 3, 8, 19, [771], g_0), (.iload_n 2, 1, 2, 0, [], g_0), (.iaload, 1, 0, 0, [], g_0), (.iconst 1, 1, 1, 0, [], g_0), (.isub, 1, 0, 0, [], g_0), (.iload 4, 2, 4, 0, [], g_0), (.isub, 1, 0, 0, [], g_0), (.goto 4, 3, 14, 0, [], g_0)]
def bk_M_reads_13 : List En := [(.iconst 0, 1, 0, 0, [], g_0)]
def bk_M_reads_14 : List En := [(.iastore, 1, 0, 0, [], g_0), (.aload_n 0, 1, 0, 0, [], g_0), (.getfield 52, 3, 8, 22, [774], g_0), (.iload 6, 2, 6, 0, [], g_0), (.iconst 3, 1, 3, 0, [], g_0), (.iadd, 1, 0, 0, [], g_0), (.aload_n 0, 1, 0, 0, [], g_0), (.getfield 43, 3, 8, 19, [771], g_0), (.iload_n 2, 1, 2, 0, [], g_0), (.iaload, 1, 0, 0, [], g_0), (.iastore, 1, 0, 0, [], g_0), (.aload_n 0, 1, 0, 0, [], g_0), (.getfield 52, 3, 8, 22, [774], g_0), (.iload 6, 2, 6, 0, [], g_0), (.iconst 4, 1, 4, 0, [], g_0), (.iadd, 1, 0, 0, [], g_0), (.iload 5, 2, 5, 0, [], g_0), (.iastore, 1, 0, 0, [], g_0), (.aload_n 0, 1, 0, 0, [], g_0), (.getfield 52, 3, 8, 22, [774], g_0), (.iload 6, 2, 6, 0, [], g_0), (.iconst 5, 1, 5, 0, [], g_0), (.iadd, 1, 0, 0, [], g_0), (.iload 9, 2, 9, 0, [], g_0), (.iastore, 1, 0, 0, [], g_0), (.return_, 1, 0, 0, [], g_0)]
def cd_M_reads : Cd := [(0, bk_M_reads_0), (17, bk_M_reads_1), (49, bk_M_reads_2), (55, bk_M_reads_3), (84, bk_M_reads_4), (104, bk_M_reads_5), (105, bk_M_reads_6), (127, bk_M_reads_7), (128, bk_M_reads_8), (150, bk_M_reads_9), (151, bk_M_reads_10), (190, bk_M_reads_11), (191, bk_M_reads_12), (230, bk_M_reads_13), (231, bk_M_reads_14), (270, [])]
def Y_M_reads : Mth := (g_M_reads, RM, cd_M_reads)
set_option maxRecDepth 20000 in
theorem ok_M_reads : okM Y_M_reads = true := by decide +kernel
theorem en_M_reads {d : Nat} {u : Mem} {Q : Option MV → Mem → Prop} (as : List MV) (hc : cats as ≤ 10) (h : RunB d Y_M_reads 0 (argL as 10) [] u Q) : OKm d g_M_reads as u Q := OKm.of (Y := Y_M_reads) ok_M_reads hc h
theorem rb_M_reads_0 {d : Nat} {L : List (Option MV)} {st : List MV} {u : Mem} {Q : Option MV → Mem → Prop} (h : go d Y_M_reads Q bk_M_reads_0 0 L st u) : RunB (d + 1) Y_M_reads 0 L st u Q := run_go ok_M_reads (by decide) h
theorem rb_M_reads_1 {d : Nat} {L : List (Option MV)} {st : List MV} {u : Mem} {Q : Option MV → Mem → Prop} (h : go d Y_M_reads Q bk_M_reads_1 1 L st u) : RunB (d + 1) Y_M_reads 1 L st u Q := run_go ok_M_reads (by decide) h
theorem rb_M_reads_2 {d : Nat} {L : List (Option MV)} {st : List MV} {u : Mem} {Q : Option MV → Mem → Prop} (h : go d Y_M_reads Q bk_M_reads_2 2 L st u) : RunB (d + 1) Y_M_reads 2 L st u Q := run_go ok_M_reads (by decide) h
theorem rb_M_reads_3 {d : Nat} {L : List (Option MV)} {st : List MV} {u : Mem} {Q : Option MV → Mem → Prop} (h : go d Y_M_reads Q bk_M_reads_3 3 L st u) : RunB (d + 1) Y_M_reads 3 L st u Q := run_go ok_M_reads (by decide) h
theorem rb_M_reads_4 {d : Nat} {L : List (Option MV)} {st : List MV} {u : Mem} {Q : Option MV → Mem → Prop} (h : go d Y_M_reads Q bk_M_reads_4 4 L st u) : RunB (d + 1) Y_M_reads 4 L st u Q := run_go ok_M_reads (by decide) h
theorem rb_M_reads_5 {d : Nat} {L : List (Option MV)} {st : List MV} {u : Mem} {Q : Option MV → Mem → Prop} (h : go d Y_M_reads Q bk_M_reads_5 5 L st u) : RunB (d + 1) Y_M_reads 5 L st u Q := run_go ok_M_reads (by decide) h
theorem rb_M_reads_6 {d : Nat} {L : List (Option MV)} {st : List MV} {u : Mem} {Q : Option MV → Mem → Prop} (h : go d Y_M_reads Q bk_M_reads_6 6 L st u) : RunB (d + 1) Y_M_reads 6 L st u Q := run_go ok_M_reads (by decide) h
theorem rb_M_reads_7 {d : Nat} {L : List (Option MV)} {st : List MV} {u : Mem} {Q : Option MV → Mem → Prop} (h : go d Y_M_reads Q bk_M_reads_7 7 L st u) : RunB (d + 1) Y_M_reads 7 L st u Q := run_go ok_M_reads (by decide) h
theorem rb_M_reads_8 {d : Nat} {L : List (Option MV)} {st : List MV} {u : Mem} {Q : Option MV → Mem → Prop} (h : go d Y_M_reads Q bk_M_reads_8 8 L st u) : RunB (d + 1) Y_M_reads 8 L st u Q := run_go ok_M_reads (by decide) h
theorem rb_M_reads_9 {d : Nat} {L : List (Option MV)} {st : List MV} {u : Mem} {Q : Option MV → Mem → Prop} (h : go d Y_M_reads Q bk_M_reads_9 9 L st u) : RunB (d + 1) Y_M_reads 9 L st u Q := run_go ok_M_reads (by decide) h
theorem rb_M_reads_10 {d : Nat} {L : List (Option MV)} {st : List MV} {u : Mem} {Q : Option MV → Mem → Prop} (h : go d Y_M_reads Q bk_M_reads_10 10 L st u) : RunB (d + 1) Y_M_reads 10 L st u Q := run_go ok_M_reads (by decide) h
theorem rb_M_reads_11 {d : Nat} {L : List (Option MV)} {st : List MV} {u : Mem} {Q : Option MV → Mem → Prop} (h : go d Y_M_reads Q bk_M_reads_11 11 L st u) : RunB (d + 1) Y_M_reads 11 L st u Q := run_go ok_M_reads (by decide) h
theorem rb_M_reads_12 {d : Nat} {L : List (Option MV)} {st : List MV} {u : Mem} {Q : Option MV → Mem → Prop} (h : go d Y_M_reads Q bk_M_reads_12 12 L st u) : RunB (d + 1) Y_M_reads 12 L st u Q := run_go ok_M_reads (by decide) h
theorem rb_M_reads_13 {d : Nat} {L : List (Option MV)} {st : List MV} {u : Mem} {Q : Option MV → Mem → Prop} (h : go d Y_M_reads Q bk_M_reads_13 13 L st u) : RunB (d + 1) Y_M_reads 13 L st u Q := run_go ok_M_reads (by decide) h
theorem rb_M_reads_14 {d : Nat} {L : List (Option MV)} {st : List MV} {u : Mem} {Q : Option MV → Mem → Prop} (h : go d Y_M_reads Q bk_M_reads_14 14 L st u) : RunB (d + 1) Y_M_reads 14 L st u Q := run_go ok_M_reads (by decide) h
def bk_M_bleaches_0 : List En := [(.aload_n 0, 1, 0, 0, [], g_0), (.getfield 43, 3, 8, 19, [771], g_0), (.iload_n 1, 1, 1, 0, [], g_0), (.iaload, 1, 0, 0, [], g_0), (.ifCond .le 51, 3, 1, 0, [], g_0), (.bipush 8, 2, 8, 0, [], g_0), (.iload_n 1, 1, 1, 0, [], g_0), (.imul, 1, 0, 0, [], g_0), (.aload_n 0, 1, 0, 0, [], g_0), (.getfield 43, 3, 8, 19, [771], g_0), (.iload_n 1, 1, 1, 0, [], g_0), (.iaload, 1, 0, 0, [], g_0), (.iadd, 1, 0, 0, [], g_0), (.iconst 1, 1, 1, 0, [], g_0), (.isub, 1, 0, 0, [], g_0), (.istore_n 2, 1, 2, 0, [], g_0), (.aload_n 0, 1, 0, 0, [], g_0), (.getfield 49, 3, 8, 21, [773], g_0), (.iload_n 2, 1, 2, 0, [], g_0), (.aload_n 0, 1, 0, 0, [], g_0), (.getfield 49, 3, 8, 21, [773], g_0), (.iload_n 2, 1, 2, 0, [], g_0), (.iaload, 1, 0, 0, [], g_0), (.iconst 3, 1, 3, 0, [], g_0), (.isub, 1, 0, 0, [], g_0), (.aload_n 0, 1, 0, 0, [], g_0), (.getfield 28, 3, 8, 8, [760], g_0), (.iconst 5, 1, 5, 0, [], g_0), (.aload_n 0, 1, 0, 0, [], g_0), (.getfield 46, 3, 8, 20, [772], g_0), (.iload_n 2, 1, 2, 0, [], g_0), (.iaload, 1, 0, 0, [], g_0), (.imul, 1, 0, 0, [], g_0), (.iconst 2, 1, 2, 0, [], g_0), (.iadd, 1, 0, 0, [], g_0), (.iaload, 1, 0, 0, [], g_0), (.iadd, 1, 0, 0, [], g_0), (.iconst 0, 1, 0, 0, [], g_0), (.invokestatic 181, 3, 2, 1, [1010, 1011, 0, 77, 1012], g_M_greater), (.iastore, 1, 0, 0, [], g_0)]
def bk_M_bleaches_1 : List En := [(.return_, 1, 0, 0, [], g_0)]
def cd_M_bleaches : Cd := [(0, bk_M_bleaches_0), (57, bk_M_bleaches_1), (58, [])]
def Y_M_bleaches : Mth := (g_M_bleaches, RM, cd_M_bleaches)
set_option maxRecDepth 20000 in
theorem ok_M_bleaches : okM Y_M_bleaches = true := by decide +kernel
theorem en_M_bleaches {d : Nat} {u : Mem} {Q : Option MV → Mem → Prop} (as : List MV) (hc : cats as ≤ 3) (h : RunB d Y_M_bleaches 0 (argL as 3) [] u Q) : OKm d g_M_bleaches as u Q := OKm.of (Y := Y_M_bleaches) ok_M_bleaches hc h
theorem rb_M_bleaches_0 {d : Nat} {L : List (Option MV)} {st : List MV} {u : Mem} {Q : Option MV → Mem → Prop} (h : go d Y_M_bleaches Q bk_M_bleaches_0 0 L st u) : RunB (d + 1) Y_M_bleaches 0 L st u Q := run_go ok_M_bleaches (by decide) h
theorem rb_M_bleaches_1 {d : Nat} {L : List (Option MV)} {st : List MV} {u : Mem} {Q : Option MV → Mem → Prop} (h : go d Y_M_bleaches Q bk_M_bleaches_1 1 L st u) : RunB (d + 1) Y_M_bleaches 1 L st u Q := run_go ok_M_bleaches (by decide) h
def bk_M_lives_0 : List En := [(.iconst 0, 1, 0, 0, [], g_0), (.istore_n 1, 1, 1, 0, [], g_0)]
def bk_M_lives_1 : List En := [(.iload_n 1, 1, 1, 0, [], g_0), (.bipush 6, 2, 6, 0, [], g_0), (.if_icmp .ge 16, 3, 2, 0, [], g_0), (.aload_n 0, 1, 0, 0, [], g_0), (.getfield 43, 3, 8, 19, [771], g_0), (.iload_n 1, 1, 1, 0, [], g_0), (.iconst 0, 1, 0, 0, [], g_0), (.iastore, 1, 0, 0, [], g_0), (.iinc 1 1, 3, 1, 1, [0], g_0), (.goto (-16), 3, 1, 0, [], g_0)]
def bk_M_lives_2 : List En := [(.iconst 0, 1, 0, 0, [], g_0), (.istore_n 1, 1, 1, 0, [], g_0)]
def bk_M_lives_3 : List En := [(.iload_n 1, 1, 1, 0, [], g_0), (.bipush 20, 2, 20, 0, [], g_0), (.if_icmp .ge 81, 3, 10, 0, [], g_0), (.aload_n 0, 1, 0, 0, [], g_0), (.iload_n 1, 1, 1, 0, [], g_0), (.invokevirtual 184, 3, 1, 8, [983, 985, 38, 77, 986], g_M_tearsOff), (.iconst 0, 1, 0, 0, [], g_0), (.istore_n 2, 1, 2, 0, [], g_0)]
def bk_M_lives_4 : List En := [(.iload_n 2, 1, 2, 0, [], g_0), (.aload_n 0, 1, 0, 0, [], g_0), (.getfield 106, 3, 8, 7, [759], g_0), (.if_icmp .ge 26, 3, 6, 0, [], g_0), (.aload_n 0, 1, 0, 0, [], g_0), (.getfield 28, 3, 8, 8, [760], g_0), (.iconst 5, 1, 5, 0, [], g_0), (.iload_n 2, 1, 2, 0, [], g_0), (.imul, 1, 0, 0, [], g_0), (.iaload, 1, 0, 0, [], g_0), (.iload_n 1, 1, 1, 0, [], g_0), (.if_icmp .ne 8, 3, 5, 0, [], g_0), (.aload_n 0, 1, 0, 0, [], g_0), (.iload_n 2, 1, 2, 0, [], g_0), (.invokevirtual 187, 3, 1, 8, [994, 996, 40, 77, 997], g_M_sticks)]
def bk_M_lives_5 : List En := [(.iinc 2 1, 3, 2, 1, [0], g_0), (.goto (-28), 3, 4, 0, [], g_0)]
def bk_M_lives_6 : List En := [(.iconst 0, 1, 0, 0, [], g_0), (.istore_n 2, 1, 2, 0, [], g_0)]
def bk_M_lives_7 : List En := [(.iload_n 2, 1, 2, 0, [], g_0), (.bipush 6, 2, 6, 0, [], g_0), (.if_icmp .ge 29, 3, 9, 0, [], g_0), (.aload_n 0, 1, 0, 0, [], g_0), (.iload_n 1, 1, 1, 0, [], g_0), (.iload_n 2, 1, 2, 0, [], g_0), (.invokevirtual 190, 3, 2, 8, [998, 1000, 41, 77, 1001], g_M_reads), (.aload_n 0, 1, 0, 0, [], g_0), (.getfield 34, 3, 8, 11, [763], g_0), (.iload_n 1, 1, 1, 0, [], g_0), (.iaload, 1, 0, 0, [], g_0), (.ifCond .ne 8, 3, 8, 0, [], g_0), (.aload_n 0, 1, 0, 0, [], g_0), (.iload_n 2, 1, 2, 0, [], g_0), (.invokevirtual 194, 3, 1, 8, [1006, 1008, 43, 77, 1009], g_M_bleaches)]
def bk_M_lives_8 : List En := [(.iinc 2 1, 3, 2, 1, [0], g_0), (.goto (-29), 3, 7, 0, [], g_0)]
def bk_M_lives_9 : List En := [(.iinc 1 1, 3, 1, 1, [0], g_0), (.goto (-81), 3, 3, 0, [], g_0)]
def bk_M_lives_10 : List En := [(.return_, 1, 0, 0, [], g_0)]
def cd_M_lives : Cd := [(0, bk_M_lives_0), (2, bk_M_lives_1), (21, bk_M_lives_2), (23, bk_M_lives_3), (36, bk_M_lives_4), (61, bk_M_lives_5), (67, bk_M_lives_6), (69, bk_M_lives_7), (95, bk_M_lives_8), (101, bk_M_lives_9), (107, bk_M_lives_10), (108, [])]
def Y_M_lives : Mth := (g_M_lives, RM, cd_M_lives)
set_option maxRecDepth 20000 in
theorem ok_M_lives : okM Y_M_lives = true := by decide +kernel
theorem en_M_lives {d : Nat} {u : Mem} {Q : Option MV → Mem → Prop} (as : List MV) (hc : cats as ≤ 3) (h : RunB d Y_M_lives 0 (argL as 3) [] u Q) : OKm d g_M_lives as u Q := OKm.of (Y := Y_M_lives) ok_M_lives hc h
theorem rb_M_lives_0 {d : Nat} {L : List (Option MV)} {st : List MV} {u : Mem} {Q : Option MV → Mem → Prop} (h : go d Y_M_lives Q bk_M_lives_0 0 L st u) : RunB (d + 1) Y_M_lives 0 L st u Q := run_go ok_M_lives (by decide) h
theorem rb_M_lives_1 {d : Nat} {L : List (Option MV)} {st : List MV} {u : Mem} {Q : Option MV → Mem → Prop} (h : go d Y_M_lives Q bk_M_lives_1 1 L st u) : RunB (d + 1) Y_M_lives 1 L st u Q := run_go ok_M_lives (by decide) h
theorem rb_M_lives_2 {d : Nat} {L : List (Option MV)} {st : List MV} {u : Mem} {Q : Option MV → Mem → Prop} (h : go d Y_M_lives Q bk_M_lives_2 2 L st u) : RunB (d + 1) Y_M_lives 2 L st u Q := run_go ok_M_lives (by decide) h
theorem rb_M_lives_3 {d : Nat} {L : List (Option MV)} {st : List MV} {u : Mem} {Q : Option MV → Mem → Prop} (h : go d Y_M_lives Q bk_M_lives_3 3 L st u) : RunB (d + 1) Y_M_lives 3 L st u Q := run_go ok_M_lives (by decide) h
theorem rb_M_lives_4 {d : Nat} {L : List (Option MV)} {st : List MV} {u : Mem} {Q : Option MV → Mem → Prop} (h : go d Y_M_lives Q bk_M_lives_4 4 L st u) : RunB (d + 1) Y_M_lives 4 L st u Q := run_go ok_M_lives (by decide) h
theorem rb_M_lives_5 {d : Nat} {L : List (Option MV)} {st : List MV} {u : Mem} {Q : Option MV → Mem → Prop} (h : go d Y_M_lives Q bk_M_lives_5 5 L st u) : RunB (d + 1) Y_M_lives 5 L st u Q := run_go ok_M_lives (by decide) h
theorem rb_M_lives_6 {d : Nat} {L : List (Option MV)} {st : List MV} {u : Mem} {Q : Option MV → Mem → Prop} (h : go d Y_M_lives Q bk_M_lives_6 6 L st u) : RunB (d + 1) Y_M_lives 6 L st u Q := run_go ok_M_lives (by decide) h
theorem rb_M_lives_7 {d : Nat} {L : List (Option MV)} {st : List MV} {u : Mem} {Q : Option MV → Mem → Prop} (h : go d Y_M_lives Q bk_M_lives_7 7 L st u) : RunB (d + 1) Y_M_lives 7 L st u Q := run_go ok_M_lives (by decide) h
theorem rb_M_lives_8 {d : Nat} {L : List (Option MV)} {st : List MV} {u : Mem} {Q : Option MV → Mem → Prop} (h : go d Y_M_lives Q bk_M_lives_8 8 L st u) : RunB (d + 1) Y_M_lives 8 L st u Q := run_go ok_M_lives (by decide) h
theorem rb_M_lives_9 {d : Nat} {L : List (Option MV)} {st : List MV} {u : Mem} {Q : Option MV → Mem → Prop} (h : go d Y_M_lives Q bk_M_lives_9 9 L st u) : RunB (d + 1) Y_M_lives 9 L st u Q := run_go ok_M_lives (by decide) h
theorem rb_M_lives_10 {d : Nat} {L : List (Option MV)} {st : List MV} {u : Mem} {Q : Option MV → Mem → Prop} (h : go d Y_M_lives Q bk_M_lives_10 10 L st u) : RunB (d + 1) Y_M_lives 10 L st u Q := run_go ok_M_lives (by decide) h
def bk_M_find_0 : List En := [(.aload_n 0, 1, 0, 0, [], g_0), (.invokevirtual 125, 3, 0, 8, [901, 903, 29, 77, 904], g_M_readsPosters), (.pop, 1, 0, 0, [], g_0), (.aload_n 0, 1, 0, 0, [], g_0), (.invokevirtual 129, 3, 0, 8, [913, 915, 30, 77, 916], g_M_readsRains), (.pop, 1, 0, 0, [], g_0), (.aload_n 0, 1, 0, 0, [], g_0), (.invokevirtual 132, 3, 0, 8, [921, 923, 32, 77, 924], g_M_readsLaw), (.pop, 1, 0, 0, [], g_0), (.aload_n 0, 1, 0, 0, [], g_0), (.invokevirtual 197, 3, 0, 8, [979, 981, 37, 77, 982], g_M_lives), (.return_, 1, 0, 0, [], g_0)]
def cd_M_find : Cd := [(0, bk_M_find_0), (20, [])]
def Y_M_find : Mth := (g_M_find, RM, cd_M_find)
set_option maxRecDepth 20000 in
theorem ok_M_find : okM Y_M_find = true := by decide +kernel
theorem en_M_find {d : Nat} {u : Mem} {Q : Option MV → Mem → Prop} (as : List MV) (hc : cats as ≤ 1) (h : RunB d Y_M_find 0 (argL as 1) [] u Q) : OKm d g_M_find as u Q := OKm.of (Y := Y_M_find) ok_M_find hc h
theorem rb_M_find_0 {d : Nat} {L : List (Option MV)} {st : List MV} {u : Mem} {Q : Option MV → Mem → Prop} (h : go d Y_M_find Q bk_M_find_0 0 L st u) : RunB (d + 1) Y_M_find 0 L st u Q := run_go ok_M_find (by decide) h
def bk_M_at_0 : List En := [(.aload_n 0, 1, 0, 0, [], g_0), (.invokevirtual 200, 3, 0, 8, [975, 977, 36, 77, 978], g_M_find), (.iload_n 1, 1, 1, 0, [], g_0), (.invokestatic 150, 3, 1, 1, [946, 947, 0, 77, 948], g_M_isDay), (.ifCond .eq 41, 3, 1, 0, [], g_0), (.iload_n 2, 1, 2, 0, [], g_0), (.invokestatic 153, 3, 1, 1, [954, 955, 0, 77, 956], g_M_isColumn), (.ifCond .eq 34, 3, 1, 0, [], g_0), (.iload_n 3, 1, 3, 0, [], g_0), (.i2l, 1, 0, 0, [], g_0), (.lconst 0, 1, 0, 0, [], g_0), (.ldc2_w 140, 3, 5, 0, [957], g_0), (.invokestatic 70, 3, 3, 1, [845, 846, 0, 77, 847], g_M_in), (.ifCond .eq 22, 3, 1, 0, [], g_0), (.aload_n 0, 1, 0, 0, [], g_0), (.getfield 52, 3, 8, 22, [774], g_0), (.bipush 36, 2, 36, 0, [], g_0), (.iload_n 1, 1, 1, 0, [], g_0), (.imul, 1, 0, 0, [], g_0), (.bipush 6, 2, 6, 0, [], g_0), (.iload_n 2, 1, 2, 0, [], g_0), (.imul, 1, 0, 0, [], g_0), (.iadd, 1, 0, 0, [], g_0), (.iload_n 3, 1, 3, 0, [], g_0), (.iadd, 1, 0, 0, [], g_0), (.iaload, 1, 0, 0, [], g_0), (.goto 5, 3, 2, 0, [], g_0)]
def bk_M_at_1 : List En := [(.bipush (-2), 2, 2, 1, [], g_0)]
def bk_M_at_2 : List En := [(.ireturn, 1, 0, 0, [], g_0)]
def cd_M_at : Cd := [(0, bk_M_at_0), (49, bk_M_at_1), (51, bk_M_at_2), (52, [])]
def Y_M_at : Mth := (g_M_at, RM, cd_M_at)
set_option maxRecDepth 20000 in
theorem ok_M_at : okM Y_M_at = true := by decide +kernel
theorem en_M_at {d : Nat} {u : Mem} {Q : Option MV → Mem → Prop} (as : List MV) (hc : cats as ≤ 4) (h : RunB d Y_M_at 0 (argL as 4) [] u Q) : OKm d g_M_at as u Q := OKm.of (Y := Y_M_at) ok_M_at hc h
theorem rb_M_at_0 {d : Nat} {L : List (Option MV)} {st : List MV} {u : Mem} {Q : Option MV → Mem → Prop} (h : go d Y_M_at Q bk_M_at_0 0 L st u) : RunB (d + 1) Y_M_at 0 L st u Q := run_go ok_M_at (by decide) h
theorem rb_M_at_1 {d : Nat} {L : List (Option MV)} {st : List MV} {u : Mem} {Q : Option MV → Mem → Prop} (h : go d Y_M_at Q bk_M_at_1 1 L st u) : RunB (d + 1) Y_M_at 1 L st u Q := run_go ok_M_at (by decide) h
theorem rb_M_at_2 {d : Nat} {L : List (Option MV)} {st : List MV} {u : Mem} {Q : Option MV → Mem → Prop} (h : go d Y_M_at Q bk_M_at_2 2 L st u) : RunB (d + 1) Y_M_at 2 L st u Q := run_go ok_M_at (by decide) h
def bk_M_isObeyed_0 : List En := [(.iconst 1, 1, 1, 0, [], g_0), (.istore_n 2, 1, 2, 0, [], g_0), (.iconst 0, 1, 0, 0, [], g_0), (.istore_n 3, 1, 3, 0, [], g_0), (.iconst 0, 1, 0, 0, [], g_0), (.istore 4, 2, 4, 0, [], g_0)]
def bk_M_isObeyed_1 : List En := [(.iload 4, 2, 4, 0, [], g_0), (.bipush 6, 2, 6, 0, [], g_0), (.if_icmp .ge 74, 3, 7, 0, [], g_0), (.iload_n 2, 1, 2, 0, [], g_0), (.ifCond .eq 43, 3, 3, 0, [], g_0), (.aload_n 0, 1, 0, 0, [], g_0), (.getfield 37, 3, 8, 12, [764], g_0), (.iload 4, 2, 4, 0, [], g_0), (.iaload, 1, 0, 0, [], g_0), (.iconst (-1), 1, 1, 1, [], g_0), (.if_icmp .eq 28, 3, 2, 0, [], g_0), (.aload_n 0, 1, 0, 0, [], g_0), (.getfield 52, 3, 8, 22, [774], g_0), (.bipush 36, 2, 36, 0, [], g_0), (.iload_n 1, 1, 1, 0, [], g_0), (.imul, 1, 0, 0, [], g_0), (.bipush 6, 2, 6, 0, [], g_0), (.iload 4, 2, 4, 0, [], g_0), (.imul, 1, 0, 0, [], g_0), (.iadd, 1, 0, 0, [], g_0), (.iaload, 1, 0, 0, [], g_0), (.aload_n 0, 1, 0, 0, [], g_0), (.getfield 37, 3, 8, 12, [764], g_0), (.iload 4, 2, 4, 0, [], g_0), (.iaload, 1, 0, 0, [], g_0), (.if_icmp .ne 7, 3, 3, 0, [], g_0)]
def bk_M_isObeyed_2 : List En := [(.iconst 1, 1, 1, 0, [], g_0), (.goto 4, 3, 4, 0, [], g_0)]
def bk_M_isObeyed_3 : List En := [(.iconst 0, 1, 0, 0, [], g_0)]
def bk_M_isObeyed_4 : List En := [(.istore_n 2, 1, 2, 0, [], g_0), (.iload_n 3, 1, 3, 0, [], g_0), (.aload_n 0, 1, 0, 0, [], g_0), (.getfield 37, 3, 8, 12, [764], g_0), (.iload 4, 2, 4, 0, [], g_0), (.iaload, 1, 0, 0, [], g_0), (.iconst (-1), 1, 1, 1, [], g_0), (.if_icmp .ne 7, 3, 5, 0, [], g_0), (.iconst 0, 1, 0, 0, [], g_0), (.goto 4, 3, 6, 0, [], g_0)]
def bk_M_isObeyed_5 : List En := [(.iconst 1, 1, 1, 0, [], g_0)]
def bk_M_isObeyed_6 : List En := [(.iadd, 1, 0, 0, [], g_0), (.istore_n 3, 1, 3, 0, [], g_0), (.iinc 4 1, 3, 4, 1, [0], g_0), (.goto (-75), 3, 1, 0, [], g_0)]
def bk_M_isObeyed_7 : List En := [(.iload_n 2, 1, 2, 0, [], g_0), (.ifCond .eq 11, 3, 8, 0, [], g_0), (.iload_n 3, 1, 3, 0, [], g_0), (.ifCond .le 7, 3, 8, 0, [], g_0), (.iconst 1, 1, 1, 0, [], g_0), (.goto 4, 3, 9, 0, [], g_0)]
def bk_M_isObeyed_8 : List En := [(.iconst 0, 1, 0, 0, [], g_0)]
def bk_M_isObeyed_9 : List En := [(.ireturn, 1, 0, 1, [], g_0)]
def cd_M_isObeyed : Cd := [(0, bk_M_isObeyed_0), (7, bk_M_isObeyed_1), (54, bk_M_isObeyed_2), (58, bk_M_isObeyed_3), (59, bk_M_isObeyed_4), (76, bk_M_isObeyed_5), (77, bk_M_isObeyed_6), (85, bk_M_isObeyed_7), (97, bk_M_isObeyed_8), (98, bk_M_isObeyed_9), (99, [])]
def Y_M_isObeyed : Mth := (g_M_isObeyed, RM, cd_M_isObeyed)
set_option maxRecDepth 20000 in
theorem ok_M_isObeyed : okM Y_M_isObeyed = true := by decide +kernel
theorem en_M_isObeyed {d : Nat} {u : Mem} {Q : Option MV → Mem → Prop} (as : List MV) (hc : cats as ≤ 5) (h : RunB d Y_M_isObeyed 0 (argL as 5) [] u Q) : OKm d g_M_isObeyed as u Q := OKm.of (Y := Y_M_isObeyed) ok_M_isObeyed hc h
theorem rb_M_isObeyed_0 {d : Nat} {L : List (Option MV)} {st : List MV} {u : Mem} {Q : Option MV → Mem → Prop} (h : go d Y_M_isObeyed Q bk_M_isObeyed_0 0 L st u) : RunB (d + 1) Y_M_isObeyed 0 L st u Q := run_go ok_M_isObeyed (by decide) h
theorem rb_M_isObeyed_1 {d : Nat} {L : List (Option MV)} {st : List MV} {u : Mem} {Q : Option MV → Mem → Prop} (h : go d Y_M_isObeyed Q bk_M_isObeyed_1 1 L st u) : RunB (d + 1) Y_M_isObeyed 1 L st u Q := run_go ok_M_isObeyed (by decide) h
theorem rb_M_isObeyed_2 {d : Nat} {L : List (Option MV)} {st : List MV} {u : Mem} {Q : Option MV → Mem → Prop} (h : go d Y_M_isObeyed Q bk_M_isObeyed_2 2 L st u) : RunB (d + 1) Y_M_isObeyed 2 L st u Q := run_go ok_M_isObeyed (by decide) h
theorem rb_M_isObeyed_3 {d : Nat} {L : List (Option MV)} {st : List MV} {u : Mem} {Q : Option MV → Mem → Prop} (h : go d Y_M_isObeyed Q bk_M_isObeyed_3 3 L st u) : RunB (d + 1) Y_M_isObeyed 3 L st u Q := run_go ok_M_isObeyed (by decide) h
theorem rb_M_isObeyed_4 {d : Nat} {L : List (Option MV)} {st : List MV} {u : Mem} {Q : Option MV → Mem → Prop} (h : go d Y_M_isObeyed Q bk_M_isObeyed_4 4 L st u) : RunB (d + 1) Y_M_isObeyed 4 L st u Q := run_go ok_M_isObeyed (by decide) h
theorem rb_M_isObeyed_5 {d : Nat} {L : List (Option MV)} {st : List MV} {u : Mem} {Q : Option MV → Mem → Prop} (h : go d Y_M_isObeyed Q bk_M_isObeyed_5 5 L st u) : RunB (d + 1) Y_M_isObeyed 5 L st u Q := run_go ok_M_isObeyed (by decide) h
theorem rb_M_isObeyed_6 {d : Nat} {L : List (Option MV)} {st : List MV} {u : Mem} {Q : Option MV → Mem → Prop} (h : go d Y_M_isObeyed Q bk_M_isObeyed_6 6 L st u) : RunB (d + 1) Y_M_isObeyed 6 L st u Q := run_go ok_M_isObeyed (by decide) h
theorem rb_M_isObeyed_7 {d : Nat} {L : List (Option MV)} {st : List MV} {u : Mem} {Q : Option MV → Mem → Prop} (h : go d Y_M_isObeyed Q bk_M_isObeyed_7 7 L st u) : RunB (d + 1) Y_M_isObeyed 7 L st u Q := run_go ok_M_isObeyed (by decide) h
theorem rb_M_isObeyed_8 {d : Nat} {L : List (Option MV)} {st : List MV} {u : Mem} {Q : Option MV → Mem → Prop} (h : go d Y_M_isObeyed Q bk_M_isObeyed_8 8 L st u) : RunB (d + 1) Y_M_isObeyed 8 L st u Q := run_go ok_M_isObeyed (by decide) h
theorem rb_M_isObeyed_9 {d : Nat} {L : List (Option MV)} {st : List MV} {u : Mem} {Q : Option MV → Mem → Prop} (h : go d Y_M_isObeyed Q bk_M_isObeyed_9 9 L st u) : RunB (d + 1) Y_M_isObeyed 9 L st u Q := run_go ok_M_isObeyed (by decide) h
end
section
def bk_M_obeyed_0 : List En := [(.aload_n 0, 1, 0, 0, [], g_0), (.invokevirtual 200, 3, 0, 8, [975, 977, 36, 77, 978], g_M_find), (.iload_n 1, 1, 1, 0, [], g_0), (.invokestatic 150, 3, 1, 1, [946, 947, 0, 77, 948], g_M_isDay), (.ifCond .ne 8, 3, 1, 0, [], g_0), (.bipush (-2), 2, 2, 1, [], g_0), (.goto 16, 3, 3, 0, [], g_0)]
def bk_M_obeyed_1 : List En := [(.aload_n 0, 1, 0, 0, [], g_0), (.iload_n 1, 1, 1, 0, [], g_0), (.invokevirtual 203, 3, 1, 8, [1017, 1019, 44, 77, 1020], g_M_isObeyed), (.ifCond .eq 7, 3, 2, 0, [], g_0), (.iconst 1, 1, 1, 0, [], g_0), (.goto 4, 3, 3, 0, [], g_0)]
def bk_M_obeyed_2 : List En := [(.iconst 0, 1, 0, 0, [], g_0)]
def bk_M_obeyed_3 : List En := [(.ireturn, 1, 0, 0, [], g_0)]
def cd_M_obeyed : Cd := [(0, bk_M_obeyed_0), (16, bk_M_obeyed_1), (28, bk_M_obeyed_2), (29, bk_M_obeyed_3), (30, [])]
def Y_M_obeyed : Mth := (g_M_obeyed, RM, cd_M_obeyed)
set_option maxRecDepth 20000 in
theorem ok_M_obeyed : okM Y_M_obeyed = true := by decide +kernel
theorem en_M_obeyed {d : Nat} {u : Mem} {Q : Option MV → Mem → Prop} (as : List MV) (hc : cats as ≤ 2) (h : RunB d Y_M_obeyed 0 (argL as 2) [] u Q) : OKm d g_M_obeyed as u Q := OKm.of (Y := Y_M_obeyed) ok_M_obeyed hc h
theorem rb_M_obeyed_0 {d : Nat} {L : List (Option MV)} {st : List MV} {u : Mem} {Q : Option MV → Mem → Prop} (h : go d Y_M_obeyed Q bk_M_obeyed_0 0 L st u) : RunB (d + 1) Y_M_obeyed 0 L st u Q := run_go ok_M_obeyed (by decide) h
theorem rb_M_obeyed_1 {d : Nat} {L : List (Option MV)} {st : List MV} {u : Mem} {Q : Option MV → Mem → Prop} (h : go d Y_M_obeyed Q bk_M_obeyed_1 1 L st u) : RunB (d + 1) Y_M_obeyed 1 L st u Q := run_go ok_M_obeyed (by decide) h
theorem rb_M_obeyed_2 {d : Nat} {L : List (Option MV)} {st : List MV} {u : Mem} {Q : Option MV → Mem → Prop} (h : go d Y_M_obeyed Q bk_M_obeyed_2 2 L st u) : RunB (d + 1) Y_M_obeyed 2 L st u Q := run_go ok_M_obeyed (by decide) h
theorem rb_M_obeyed_3 {d : Nat} {L : List (Option MV)} {st : List MV} {u : Mem} {Q : Option MV → Mem → Prop} (h : go d Y_M_obeyed Q bk_M_obeyed_3 3 L st u) : RunB (d + 1) Y_M_obeyed 3 L st u Q := run_go ok_M_obeyed (by decide) h
def bk_M_daysBy_0 : List En := [(.iconst 0, 1, 0, 0, [], g_0), (.istore_n 2, 1, 2, 0, [], g_0), (.iconst (-1), 1, 1, 1, [], g_0), (.istore_n 3, 1, 3, 0, [], g_0), (.iconst 0, 1, 0, 0, [], g_0), (.istore 4, 2, 4, 0, [], g_0)]
def bk_M_daysBy_1 : List En := [(.iload 4, 2, 4, 0, [], g_0), (.bipush 20, 2, 20, 0, [], g_0), (.if_icmp .ge 47, 3, 6, 0, [], g_0), (.aload_n 0, 1, 0, 0, [], g_0), (.iload 4, 2, 4, 0, [], g_0), (.invokevirtual 203, 3, 1, 8, [1017, 1019, 44, 77, 1020], g_M_isObeyed), (.istore 5, 2, 5, 0, [], g_0), (.iload 5, 2, 5, 0, [], g_0), (.ifCond .eq 13, 3, 2, 0, [], g_0), (.iload_n 3, 1, 3, 0, [], g_0), (.iconst (-1), 1, 1, 1, [], g_0), (.if_icmp .ne 8, 3, 2, 0, [], g_0), (.iload 4, 2, 4, 0, [], g_0), (.goto 4, 3, 3, 0, [], g_0)]
def bk_M_daysBy_2 : List En := [(.iload_n 3, 1, 3, 0, [], g_0)]
def bk_M_daysBy_3 : List En := [(.istore_n 3, 1, 3, 0, [], g_0), (.iload_n 2, 1, 2, 0, [], g_0), (.iload 5, 2, 5, 0, [], g_0), (.ifCond .eq 7, 3, 4, 0, [], g_0), (.iconst 1, 1, 1, 0, [], g_0), (.goto 4, 3, 5, 0, [], g_0)]
def bk_M_daysBy_4 : List En := [(.iconst 0, 1, 0, 0, [], g_0)]
def bk_M_daysBy_5 : List En := [(.iadd, 1, 0, 0, [], g_0), (.istore_n 2, 1, 2, 0, [], g_0), (.iinc 4 1, 3, 4, 1, [0], g_0), (.goto (-48), 3, 1, 0, [], g_0)]
def bk_M_daysBy_6 : List En := [(.iload_n 1, 1, 1, 0, [], g_0), (.ifCond .ne 7, 3, 7, 0, [], g_0), (.iload_n 2, 1, 2, 0, [], g_0), (.goto 4, 3, 8, 0, [], g_0)]
def bk_M_daysBy_7 : List En := [(.iload_n 3, 1, 3, 0, [], g_0)]
def bk_M_daysBy_8 : List En := [(.ireturn, 1, 0, 0, [], g_0)]
def cd_M_daysBy : Cd := [(0, bk_M_daysBy_0), (7, bk_M_daysBy_1), (37, bk_M_daysBy_2), (38, bk_M_daysBy_3), (49, bk_M_daysBy_4), (50, bk_M_daysBy_5), (58, bk_M_daysBy_6), (66, bk_M_daysBy_7), (67, bk_M_daysBy_8), (68, [])]
def Y_M_daysBy : Mth := (g_M_daysBy, RM, cd_M_daysBy)
set_option maxRecDepth 20000 in
theorem ok_M_daysBy : okM Y_M_daysBy = true := by decide +kernel
theorem en_M_daysBy {d : Nat} {u : Mem} {Q : Option MV → Mem → Prop} (as : List MV) (hc : cats as ≤ 6) (h : RunB d Y_M_daysBy 0 (argL as 6) [] u Q) : OKm d g_M_daysBy as u Q := OKm.of (Y := Y_M_daysBy) ok_M_daysBy hc h
theorem rb_M_daysBy_0 {d : Nat} {L : List (Option MV)} {st : List MV} {u : Mem} {Q : Option MV → Mem → Prop} (h : go d Y_M_daysBy Q bk_M_daysBy_0 0 L st u) : RunB (d + 1) Y_M_daysBy 0 L st u Q := run_go ok_M_daysBy (by decide) h
theorem rb_M_daysBy_1 {d : Nat} {L : List (Option MV)} {st : List MV} {u : Mem} {Q : Option MV → Mem → Prop} (h : go d Y_M_daysBy Q bk_M_daysBy_1 1 L st u) : RunB (d + 1) Y_M_daysBy 1 L st u Q := run_go ok_M_daysBy (by decide) h
theorem rb_M_daysBy_2 {d : Nat} {L : List (Option MV)} {st : List MV} {u : Mem} {Q : Option MV → Mem → Prop} (h : go d Y_M_daysBy Q bk_M_daysBy_2 2 L st u) : RunB (d + 1) Y_M_daysBy 2 L st u Q := run_go ok_M_daysBy (by decide) h
theorem rb_M_daysBy_3 {d : Nat} {L : List (Option MV)} {st : List MV} {u : Mem} {Q : Option MV → Mem → Prop} (h : go d Y_M_daysBy Q bk_M_daysBy_3 3 L st u) : RunB (d + 1) Y_M_daysBy 3 L st u Q := run_go ok_M_daysBy (by decide) h
theorem rb_M_daysBy_4 {d : Nat} {L : List (Option MV)} {st : List MV} {u : Mem} {Q : Option MV → Mem → Prop} (h : go d Y_M_daysBy Q bk_M_daysBy_4 4 L st u) : RunB (d + 1) Y_M_daysBy 4 L st u Q := run_go ok_M_daysBy (by decide) h
theorem rb_M_daysBy_5 {d : Nat} {L : List (Option MV)} {st : List MV} {u : Mem} {Q : Option MV → Mem → Prop} (h : go d Y_M_daysBy Q bk_M_daysBy_5 5 L st u) : RunB (d + 1) Y_M_daysBy 5 L st u Q := run_go ok_M_daysBy (by decide) h
theorem rb_M_daysBy_6 {d : Nat} {L : List (Option MV)} {st : List MV} {u : Mem} {Q : Option MV → Mem → Prop} (h : go d Y_M_daysBy Q bk_M_daysBy_6 6 L st u) : RunB (d + 1) Y_M_daysBy 6 L st u Q := run_go ok_M_daysBy (by decide) h
theorem rb_M_daysBy_7 {d : Nat} {L : List (Option MV)} {st : List MV} {u : Mem} {Q : Option MV → Mem → Prop} (h : go d Y_M_daysBy Q bk_M_daysBy_7 7 L st u) : RunB (d + 1) Y_M_daysBy 7 L st u Q := run_go ok_M_daysBy (by decide) h
theorem rb_M_daysBy_8 {d : Nat} {L : List (Option MV)} {st : List MV} {u : Mem} {Q : Option MV → Mem → Prop} (h : go d Y_M_daysBy Q bk_M_daysBy_8 8 L st u) : RunB (d + 1) Y_M_daysBy 8 L st u Q := run_go ok_M_daysBy (by decide) h
def bk_M_days_0 : List En := [(.aload_n 0, 1, 0, 0, [], g_0), (.invokevirtual 200, 3, 0, 8, [975, 977, 36, 77, 978], g_M_find), (.iload_n 1, 1, 1, 0, [], g_0), (.invokestatic 206, 3, 1, 1, [1025, 1026, 0, 77, 1027], g_M_isTwo), (.ifCond .eq 11, 3, 1, 0, [], g_0), (.aload_n 0, 1, 0, 0, [], g_0), (.iload_n 1, 1, 1, 0, [], g_0), (.invokevirtual 209, 3, 1, 8, [1028, 1030, 45, 77, 1031], g_M_daysBy), (.goto 5, 3, 2, 0, [], g_0)]
def bk_M_days_1 : List En := [(.bipush (-2), 2, 2, 1, [], g_0)]
def bk_M_days_2 : List En := [(.ireturn, 1, 0, 0, [], g_0)]
def cd_M_days : Cd := [(0, bk_M_days_0), (19, bk_M_days_1), (21, bk_M_days_2), (22, [])]
def Y_M_days : Mth := (g_M_days, RM, cd_M_days)
set_option maxRecDepth 20000 in
theorem ok_M_days : okM Y_M_days = true := by decide +kernel
theorem en_M_days {d : Nat} {u : Mem} {Q : Option MV → Mem → Prop} (as : List MV) (hc : cats as ≤ 2) (h : RunB d Y_M_days 0 (argL as 2) [] u Q) : OKm d g_M_days as u Q := OKm.of (Y := Y_M_days) ok_M_days hc h
theorem rb_M_days_0 {d : Nat} {L : List (Option MV)} {st : List MV} {u : Mem} {Q : Option MV → Mem → Prop} (h : go d Y_M_days Q bk_M_days_0 0 L st u) : RunB (d + 1) Y_M_days 0 L st u Q := run_go ok_M_days (by decide) h
theorem rb_M_days_1 {d : Nat} {L : List (Option MV)} {st : List MV} {u : Mem} {Q : Option MV → Mem → Prop} (h : go d Y_M_days Q bk_M_days_1 1 L st u) : RunB (d + 1) Y_M_days 1 L st u Q := run_go ok_M_days (by decide) h
theorem rb_M_days_2 {d : Nat} {L : List (Option MV)} {st : List MV} {u : Mem} {Q : Option MV → Mem → Prop} (h : go d Y_M_days Q bk_M_days_2 2 L st u) : RunB (d + 1) Y_M_days 2 L st u Q := run_go ok_M_days (by decide) h
def bk_M_readOf_0 : List En := [(.iconst 0, 1, 0, 0, [], g_0), (.istore_n 2, 1, 2, 0, [], g_0), (.iconst 0, 1, 0, 0, [], g_0), (.istore_n 3, 1, 3, 0, [], g_0)]
def bk_M_readOf_1 : List En := [(.iload_n 3, 1, 3, 0, [], g_0), (.bipush 20, 2, 20, 0, [], g_0), (.if_icmp .ge 93, 3, 9, 0, [], g_0), (.iconst 0, 1, 0, 0, [], g_0), (.istore 4, 2, 4, 0, [], g_0), (.iconst 0, 1, 0, 0, [], g_0), (.istore 5, 2, 5, 0, [], g_0)]
def bk_M_readOf_2 : List En := [(.iload 5, 2, 5, 0, [], g_0), (.bipush 6, 2, 6, 0, [], g_0), (.if_icmp .ge 61, 3, 6, 0, [], g_0), (.iload 4, 2, 4, 0, [], g_0), (.ifCond .ne 43, 3, 3, 0, [], g_0), (.aload_n 0, 1, 0, 0, [], g_0), (.getfield 52, 3, 8, 22, [774], g_0), (.bipush 36, 2, 36, 0, [], g_0), (.iload_n 3, 1, 3, 0, [], g_0), (.imul, 1, 0, 0, [], g_0), (.bipush 6, 2, 6, 0, [], g_0), (.iload 5, 2, 5, 0, [], g_0), (.imul, 1, 0, 0, [], g_0), (.iadd, 1, 0, 0, [], g_0), (.iaload, 1, 0, 0, [], g_0), (.iconst (-1), 1, 1, 1, [], g_0), (.if_icmp .eq 28, 3, 4, 0, [], g_0), (.aload_n 0, 1, 0, 0, [], g_0), (.getfield 52, 3, 8, 22, [774], g_0), (.bipush 36, 2, 36, 0, [], g_0), (.iload_n 3, 1, 3, 0, [], g_0), (.imul, 1, 0, 0, [], g_0), (.bipush 6, 2, 6, 0, [], g_0), (.iload 5, 2, 5, 0, [], g_0), (.imul, 1, 0, 0, [], g_0), (.iadd, 1, 0, 0, [], g_0), (.iconst 1, 1, 1, 0, [], g_0), (.iadd, 1, 0, 0, [], g_0), (.iaload, 1, 0, 0, [], g_0), (.iload_n 1, 1, 1, 0, [], g_0), (.if_icmp .ne 7, 3, 4, 0, [], g_0)]
def bk_M_readOf_3 : List En := [(.iconst 1, 1, 1, 0, [], g_0), (.goto 4, 3, 5, 0, [], g_0)]
def bk_M_readOf_4 : List En := [(.iconst 0, 1, 0, 0, [], g_0)]
def bk_M_readOf_5 : List En := [(.istore 4, 2, 4, 0, [], g_0), (.iinc 5 1, 3, 5, 1, [0], g_0), (.goto (-62), 3, 2, 0, [], g_0)]
def bk_M_readOf_6 : List En := [(.iload_n 2, 1, 2, 0, [], g_0), (.iload 4, 2, 4, 0, [], g_0), (.ifCond .eq 7, 3, 7, 0, [], g_0), (.iconst 1, 1, 1, 0, [], g_0), (.goto 4, 3, 8, 0, [], g_0)]
def bk_M_readOf_7 : List En := [(.iconst 0, 1, 0, 0, [], g_0)]
def bk_M_readOf_8 : List En := [(.iadd, 1, 0, 0, [], g_0), (.istore_n 2, 1, 2, 0, [], g_0), (.iinc 3 1, 3, 3, 1, [0], g_0), (.goto (-93), 3, 1, 0, [], g_0)]
def bk_M_readOf_9 : List En := [(.iload_n 2, 1, 2, 0, [], g_0), (.ireturn, 1, 0, 0, [], g_0)]
def cd_M_readOf : Cd := [(0, bk_M_readOf_0), (4, bk_M_readOf_1), (16, bk_M_readOf_2), (68, bk_M_readOf_3), (72, bk_M_readOf_4), (73, bk_M_readOf_5), (81, bk_M_readOf_6), (91, bk_M_readOf_7), (92, bk_M_readOf_8), (100, bk_M_readOf_9), (102, [])]
def Y_M_readOf : Mth := (g_M_readOf, RM, cd_M_readOf)
set_option maxRecDepth 20000 in
theorem ok_M_readOf : okM Y_M_readOf = true := by decide +kernel
theorem en_M_readOf {d : Nat} {u : Mem} {Q : Option MV → Mem → Prop} (as : List MV) (hc : cats as ≤ 6) (h : RunB d Y_M_readOf 0 (argL as 6) [] u Q) : OKm d g_M_readOf as u Q := OKm.of (Y := Y_M_readOf) ok_M_readOf hc h
theorem rb_M_readOf_0 {d : Nat} {L : List (Option MV)} {st : List MV} {u : Mem} {Q : Option MV → Mem → Prop} (h : go d Y_M_readOf Q bk_M_readOf_0 0 L st u) : RunB (d + 1) Y_M_readOf 0 L st u Q := run_go ok_M_readOf (by decide) h
theorem rb_M_readOf_1 {d : Nat} {L : List (Option MV)} {st : List MV} {u : Mem} {Q : Option MV → Mem → Prop} (h : go d Y_M_readOf Q bk_M_readOf_1 1 L st u) : RunB (d + 1) Y_M_readOf 1 L st u Q := run_go ok_M_readOf (by decide) h
theorem rb_M_readOf_2 {d : Nat} {L : List (Option MV)} {st : List MV} {u : Mem} {Q : Option MV → Mem → Prop} (h : go d Y_M_readOf Q bk_M_readOf_2 2 L st u) : RunB (d + 1) Y_M_readOf 2 L st u Q := run_go ok_M_readOf (by decide) h
theorem rb_M_readOf_3 {d : Nat} {L : List (Option MV)} {st : List MV} {u : Mem} {Q : Option MV → Mem → Prop} (h : go d Y_M_readOf Q bk_M_readOf_3 3 L st u) : RunB (d + 1) Y_M_readOf 3 L st u Q := run_go ok_M_readOf (by decide) h
theorem rb_M_readOf_4 {d : Nat} {L : List (Option MV)} {st : List MV} {u : Mem} {Q : Option MV → Mem → Prop} (h : go d Y_M_readOf Q bk_M_readOf_4 4 L st u) : RunB (d + 1) Y_M_readOf 4 L st u Q := run_go ok_M_readOf (by decide) h
theorem rb_M_readOf_5 {d : Nat} {L : List (Option MV)} {st : List MV} {u : Mem} {Q : Option MV → Mem → Prop} (h : go d Y_M_readOf Q bk_M_readOf_5 5 L st u) : RunB (d + 1) Y_M_readOf 5 L st u Q := run_go ok_M_readOf (by decide) h
theorem rb_M_readOf_6 {d : Nat} {L : List (Option MV)} {st : List MV} {u : Mem} {Q : Option MV → Mem → Prop} (h : go d Y_M_readOf Q bk_M_readOf_6 6 L st u) : RunB (d + 1) Y_M_readOf 6 L st u Q := run_go ok_M_readOf (by decide) h
theorem rb_M_readOf_7 {d : Nat} {L : List (Option MV)} {st : List MV} {u : Mem} {Q : Option MV → Mem → Prop} (h : go d Y_M_readOf Q bk_M_readOf_7 7 L st u) : RunB (d + 1) Y_M_readOf 7 L st u Q := run_go ok_M_readOf (by decide) h
theorem rb_M_readOf_8 {d : Nat} {L : List (Option MV)} {st : List MV} {u : Mem} {Q : Option MV → Mem → Prop} (h : go d Y_M_readOf Q bk_M_readOf_8 8 L st u) : RunB (d + 1) Y_M_readOf 8 L st u Q := run_go ok_M_readOf (by decide) h
theorem rb_M_readOf_9 {d : Nat} {L : List (Option MV)} {st : List MV} {u : Mem} {Q : Option MV → Mem → Prop} (h : go d Y_M_readOf Q bk_M_readOf_9 9 L st u) : RunB (d + 1) Y_M_readOf 9 L st u Q := run_go ok_M_readOf (by decide) h
def bk_M_unreadNow_0 : List En := [(.iconst 0, 1, 0, 0, [], g_0), (.istore_n 1, 1, 1, 0, [], g_0), (.iconst 0, 1, 0, 0, [], g_0), (.istore_n 2, 1, 2, 0, [], g_0)]
def bk_M_unreadNow_1 : List En := [(.iload_n 2, 1, 2, 0, [], g_0), (.aload_n 0, 1, 0, 0, [], g_0), (.getfield 106, 3, 8, 7, [759], g_0), (.if_icmp .ge 27, 3, 4, 0, [], g_0), (.iload_n 1, 1, 1, 0, [], g_0), (.aload_n 0, 1, 0, 0, [], g_0), (.iload_n 2, 1, 2, 0, [], g_0), (.invokevirtual 212, 3, 1, 8, [1040, 1042, 47, 77, 1043], g_M_readOf), (.ifCond .ne 9, 3, 2, 0, [], g_0), (.iconst 1, 1, 1, 0, [], g_0), (.iload_n 2, 1, 2, 0, [], g_0), (.ishl, 1, 0, 0, [], g_0), (.goto 4, 3, 3, 0, [], g_0)]
def bk_M_unreadNow_2 : List En := [(.iconst 0, 1, 0, 0, [], g_0)]
def bk_M_unreadNow_3 : List En := [(.ior, 1, 0, 0, [], g_0), (.istore_n 1, 1, 1, 0, [], g_0), (.iinc 2 1, 3, 2, 1, [0], g_0), (.goto (-29), 3, 1, 0, [], g_0)]
def bk_M_unreadNow_4 : List En := [(.iload_n 1, 1, 1, 0, [], g_0), (.ireturn, 1, 0, 0, [], g_0)]
def cd_M_unreadNow : Cd := [(0, bk_M_unreadNow_0), (4, bk_M_unreadNow_1), (27, bk_M_unreadNow_2), (28, bk_M_unreadNow_3), (36, bk_M_unreadNow_4), (38, [])]
def Y_M_unreadNow : Mth := (g_M_unreadNow, RM, cd_M_unreadNow)
set_option maxRecDepth 20000 in
theorem ok_M_unreadNow : okM Y_M_unreadNow = true := by decide +kernel
theorem en_M_unreadNow {d : Nat} {u : Mem} {Q : Option MV → Mem → Prop} (as : List MV) (hc : cats as ≤ 3) (h : RunB d Y_M_unreadNow 0 (argL as 3) [] u Q) : OKm d g_M_unreadNow as u Q := OKm.of (Y := Y_M_unreadNow) ok_M_unreadNow hc h
theorem rb_M_unreadNow_0 {d : Nat} {L : List (Option MV)} {st : List MV} {u : Mem} {Q : Option MV → Mem → Prop} (h : go d Y_M_unreadNow Q bk_M_unreadNow_0 0 L st u) : RunB (d + 1) Y_M_unreadNow 0 L st u Q := run_go ok_M_unreadNow (by decide) h
theorem rb_M_unreadNow_1 {d : Nat} {L : List (Option MV)} {st : List MV} {u : Mem} {Q : Option MV → Mem → Prop} (h : go d Y_M_unreadNow Q bk_M_unreadNow_1 1 L st u) : RunB (d + 1) Y_M_unreadNow 1 L st u Q := run_go ok_M_unreadNow (by decide) h
theorem rb_M_unreadNow_2 {d : Nat} {L : List (Option MV)} {st : List MV} {u : Mem} {Q : Option MV → Mem → Prop} (h : go d Y_M_unreadNow Q bk_M_unreadNow_2 2 L st u) : RunB (d + 1) Y_M_unreadNow 2 L st u Q := run_go ok_M_unreadNow (by decide) h
theorem rb_M_unreadNow_3 {d : Nat} {L : List (Option MV)} {st : List MV} {u : Mem} {Q : Option MV → Mem → Prop} (h : go d Y_M_unreadNow Q bk_M_unreadNow_3 3 L st u) : RunB (d + 1) Y_M_unreadNow 3 L st u Q := run_go ok_M_unreadNow (by decide) h
theorem rb_M_unreadNow_4 {d : Nat} {L : List (Option MV)} {st : List MV} {u : Mem} {Q : Option MV → Mem → Prop} (h : go d Y_M_unreadNow Q bk_M_unreadNow_4 4 L st u) : RunB (d + 1) Y_M_unreadNow 4 L st u Q := run_go ok_M_unreadNow (by decide) h
def bk_M_unread_0 : List En := [(.aload_n 0, 1, 0, 0, [], g_0), (.invokevirtual 200, 3, 0, 8, [975, 977, 36, 77, 978], g_M_find), (.aload_n 0, 1, 0, 0, [], g_0), (.invokevirtual 215, 3, 0, 8, [1036, 1038, 46, 77, 1039], g_M_unreadNow), (.ireturn, 1, 0, 0, [], g_0)]
def cd_M_unread : Cd := [(0, bk_M_unread_0), (9, [])]
def Y_M_unread : Mth := (g_M_unread, RM, cd_M_unread)
set_option maxRecDepth 20000 in
theorem ok_M_unread : okM Y_M_unread = true := by decide +kernel
theorem en_M_unread {d : Nat} {u : Mem} {Q : Option MV → Mem → Prop} (as : List MV) (hc : cats as ≤ 1) (h : RunB d Y_M_unread 0 (argL as 1) [] u Q) : OKm d g_M_unread as u Q := OKm.of (Y := Y_M_unread) ok_M_unread hc h
theorem rb_M_unread_0 {d : Nat} {L : List (Option MV)} {st : List MV} {u : Mem} {Q : Option MV → Mem → Prop} (h : go d Y_M_unread Q bk_M_unread_0 0 L st u) : RunB (d + 1) Y_M_unread 0 L st u Q := run_go ok_M_unread (by decide) h
def bk_M_oftenNow_0 : List En := [(.iconst (-1), 1, 1, 1, [], g_0), (.istore_n 1, 1, 1, 0, [], g_0), (.iconst (-1), 1, 1, 1, [], g_0), (.istore_n 2, 1, 2, 0, [], g_0), (.iconst 0, 1, 0, 0, [], g_0), (.istore_n 3, 1, 3, 0, [], g_0)]
def bk_M_oftenNow_1 : List En := [(.iload_n 3, 1, 3, 0, [], g_0), (.aload_n 0, 1, 0, 0, [], g_0), (.getfield 106, 3, 8, 7, [759], g_0), (.if_icmp .ge 35, 3, 4, 0, [], g_0), (.aload_n 0, 1, 0, 0, [], g_0), (.iload_n 3, 1, 3, 0, [], g_0), (.invokevirtual 212, 3, 1, 8, [1040, 1042, 47, 77, 1043], g_M_readOf), (.istore 4, 2, 4, 0, [], g_0), (.iload 4, 2, 4, 0, [], g_0), (.iload_n 2, 1, 2, 0, [], g_0), (.if_icmp .le 7, 3, 2, 0, [], g_0), (.iload_n 3, 1, 3, 0, [], g_0), (.goto 4, 3, 3, 0, [], g_0)]
def bk_M_oftenNow_2 : List En := [(.iload_n 1, 1, 1, 0, [], g_0)]
def bk_M_oftenNow_3 : List En := [(.istore_n 1, 1, 1, 0, [], g_0), (.iload 4, 2, 4, 0, [], g_0), (.iload_n 2, 1, 2, 0, [], g_0), (.invokestatic 181, 3, 2, 1, [1010, 1011, 0, 77, 1012], g_M_greater), (.istore_n 2, 1, 2, 0, [], g_0), (.iinc 3 1, 3, 3, 1, [0], g_0), (.goto (-37), 3, 1, 0, [], g_0)]
def bk_M_oftenNow_4 : List En := [(.iload_n 1, 1, 1, 0, [], g_0), (.ireturn, 1, 0, 0, [], g_0)]
def cd_M_oftenNow : Cd := [(0, bk_M_oftenNow_0), (6, bk_M_oftenNow_1), (31, bk_M_oftenNow_2), (32, bk_M_oftenNow_3), (46, bk_M_oftenNow_4), (48, [])]
def Y_M_oftenNow : Mth := (g_M_oftenNow, RM, cd_M_oftenNow)
set_option maxRecDepth 20000 in
theorem ok_M_oftenNow : okM Y_M_oftenNow = true := by decide +kernel
theorem en_M_oftenNow {d : Nat} {u : Mem} {Q : Option MV → Mem → Prop} (as : List MV) (hc : cats as ≤ 5) (h : RunB d Y_M_oftenNow 0 (argL as 5) [] u Q) : OKm d g_M_oftenNow as u Q := OKm.of (Y := Y_M_oftenNow) ok_M_oftenNow hc h
theorem rb_M_oftenNow_0 {d : Nat} {L : List (Option MV)} {st : List MV} {u : Mem} {Q : Option MV → Mem → Prop} (h : go d Y_M_oftenNow Q bk_M_oftenNow_0 0 L st u) : RunB (d + 1) Y_M_oftenNow 0 L st u Q := run_go ok_M_oftenNow (by decide) h
theorem rb_M_oftenNow_1 {d : Nat} {L : List (Option MV)} {st : List MV} {u : Mem} {Q : Option MV → Mem → Prop} (h : go d Y_M_oftenNow Q bk_M_oftenNow_1 1 L st u) : RunB (d + 1) Y_M_oftenNow 1 L st u Q := run_go ok_M_oftenNow (by decide) h
theorem rb_M_oftenNow_2 {d : Nat} {L : List (Option MV)} {st : List MV} {u : Mem} {Q : Option MV → Mem → Prop} (h : go d Y_M_oftenNow Q bk_M_oftenNow_2 2 L st u) : RunB (d + 1) Y_M_oftenNow 2 L st u Q := run_go ok_M_oftenNow (by decide) h
theorem rb_M_oftenNow_3 {d : Nat} {L : List (Option MV)} {st : List MV} {u : Mem} {Q : Option MV → Mem → Prop} (h : go d Y_M_oftenNow Q bk_M_oftenNow_3 3 L st u) : RunB (d + 1) Y_M_oftenNow 3 L st u Q := run_go ok_M_oftenNow (by decide) h
theorem rb_M_oftenNow_4 {d : Nat} {L : List (Option MV)} {st : List MV} {u : Mem} {Q : Option MV → Mem → Prop} (h : go d Y_M_oftenNow Q bk_M_oftenNow_4 4 L st u) : RunB (d + 1) Y_M_oftenNow 4 L st u Q := run_go ok_M_oftenNow (by decide) h
def bk_M_often_0 : List En := [(.aload_n 0, 1, 0, 0, [], g_0), (.invokevirtual 200, 3, 0, 8, [975, 977, 36, 77, 978], g_M_find), (.aload_n 0, 1, 0, 0, [], g_0), (.invokevirtual 218, 3, 0, 8, [1048, 1050, 48, 77, 1051], g_M_oftenNow), (.ireturn, 1, 0, 0, [], g_0)]
def cd_M_often : Cd := [(0, bk_M_often_0), (9, [])]
def Y_M_often : Mth := (g_M_often, RM, cd_M_often)
set_option maxRecDepth 20000 in
theorem ok_M_often : okM Y_M_often = true := by decide +kernel
theorem en_M_often {d : Nat} {u : Mem} {Q : Option MV → Mem → Prop} (as : List MV) (hc : cats as ≤ 1) (h : RunB d Y_M_often 0 (argL as 1) [] u Q) : OKm d g_M_often as u Q := OKm.of (Y := Y_M_often) ok_M_often hc h
theorem rb_M_often_0 {d : Nat} {L : List (Option MV)} {st : List MV} {u : Mem} {Q : Option MV → Mem → Prop} (h : go d Y_M_often Q bk_M_often_0 0 L st u) : RunB (d + 1) Y_M_often 0 L st u Q := run_go ok_M_often (by decide) h
def bk_M_isObeyedBy_0 : List En := [(.aload_n 0, 1, 0, 0, [], g_0), (.iload_n 1, 1, 1, 0, [], g_0), (.putfield 64, 3, 8, 16, [768], g_0), (.aload_n 0, 1, 0, 0, [], g_0), (.iload_n 2, 1, 2, 0, [], g_0), (.putfield 172, 3, 8, 17, [769], g_0), (.aload_n 0, 1, 0, 0, [], g_0), (.iload_n 3, 1, 3, 0, [], g_0), (.putfield 175, 3, 8, 18, [770], g_0), (.aload_n 0, 1, 0, 0, [], g_0), (.invokevirtual 197, 3, 0, 8, [979, 981, 37, 77, 982], g_M_lives), (.aload_n 0, 1, 0, 0, [], g_0), (.iconst (-1), 1, 1, 1, [], g_0), (.putfield 64, 3, 8, 16, [768], g_0), (.aload_n 0, 1, 0, 0, [], g_0), (.iload_n 1, 1, 1, 0, [], g_0), (.invokevirtual 203, 3, 1, 8, [1017, 1019, 44, 77, 1020], g_M_isObeyed), (.ireturn, 1, 0, 1, [], g_0)]
def cd_M_isObeyedBy : Cd := [(0, bk_M_isObeyedBy_0), (30, [])]
def Y_M_isObeyedBy : Mth := (g_M_isObeyedBy, RM, cd_M_isObeyedBy)
set_option maxRecDepth 20000 in
theorem ok_M_isObeyedBy : okM Y_M_isObeyedBy = true := by decide +kernel
theorem en_M_isObeyedBy {d : Nat} {u : Mem} {Q : Option MV → Mem → Prop} (as : List MV) (hc : cats as ≤ 4) (h : RunB d Y_M_isObeyedBy 0 (argL as 4) [] u Q) : OKm d g_M_isObeyedBy as u Q := OKm.of (Y := Y_M_isObeyedBy) ok_M_isObeyedBy hc h
theorem rb_M_isObeyedBy_0 {d : Nat} {L : List (Option MV)} {st : List MV} {u : Mem} {Q : Option MV → Mem → Prop} (h : go d Y_M_isObeyedBy Q bk_M_isObeyedBy_0 0 L st u) : RunB (d + 1) Y_M_isObeyedBy 0 L st u Q := run_go ok_M_isObeyedBy (by decide) h
def bk_M_ripOf_0 : List En := [(.aload_n 0, 1, 0, 0, [], g_0), (.iload_n 1, 1, 1, 0, [], g_0), (.iconst (-1), 1, 1, 1, [], g_0), (.iconst (-1), 1, 1, 1, [], g_0), (.invokevirtual 221, 3, 3, 8, [1061, 1063, 50, 77, 1064], g_M_isObeyedBy), (.ifCond .eq 14, 3, 3, 0, [], g_0), (.iload_n 2, 1, 2, 0, [], g_0), (.iconst (-1), 1, 1, 1, [], g_0), (.if_icmp .ne 7, 3, 1, 0, [], g_0), (.iconst 0, 1, 0, 0, [], g_0), (.goto 4, 3, 2, 0, [], g_0)]
def bk_M_ripOf_1 : List En := [(.iconst (-1), 1, 1, 1, [], g_0)]
def bk_M_ripOf_2 : List En := [(.ireturn, 1, 0, 0, [], g_0)]
def bk_M_ripOf_3 : List En := [(.iconst 0, 1, 0, 0, [], g_0), (.istore_n 3, 1, 3, 0, [], g_0)]
def bk_M_ripOf_4 : List En := [(.iload_n 3, 1, 3, 0, [], g_0), (.bipush 6, 2, 6, 0, [], g_0), (.if_icmp .ge 38, 3, 9, 0, [], g_0), (.aload_n 0, 1, 0, 0, [], g_0), (.iload_n 1, 1, 1, 0, [], g_0), (.iload_n 3, 1, 3, 0, [], g_0), (.iconst (-1), 1, 1, 1, [], g_0), (.invokevirtual 221, 3, 3, 8, [1061, 1063, 50, 77, 1064], g_M_isObeyedBy), (.ifCond .eq 22, 3, 8, 0, [], g_0), (.iload_n 2, 1, 2, 0, [], g_0), (.iconst (-1), 1, 1, 1, [], g_0), (.if_icmp .ne 7, 3, 5, 0, [], g_0), (.iconst 1, 1, 1, 0, [], g_0), (.goto 12, 3, 7, 0, [], g_0)]
def bk_M_ripOf_5 : List En := [(.iload_n 2, 1, 2, 0, [], g_0), (.ifCond .ne 7, 3, 6, 0, [], g_0), (.iload_n 3, 1, 3, 0, [], g_0), (.goto 4, 3, 7, 0, [], g_0)]
def bk_M_ripOf_6 : List En := [(.iconst (-1), 1, 1, 1, [], g_0)]
def bk_M_ripOf_7 : List En := [(.ireturn, 1, 0, 0, [], g_0)]
def bk_M_ripOf_8 : List En := [(.iinc 3 1, 3, 3, 1, [0], g_0), (.goto (-38), 3, 4, 0, [], g_0)]
def bk_M_ripOf_9 : List En := [(.iconst 0, 1, 0, 0, [], g_0), (.istore_n 3, 1, 3, 0, [], g_0)]
def bk_M_ripOf_10 : List En := [(.iload_n 3, 1, 3, 0, [], g_0), (.bipush 6, 2, 6, 0, [], g_0), (.if_icmp .ge 56, 3, 17, 0, [], g_0), (.iload_n 3, 1, 3, 0, [], g_0), (.istore 4, 2, 4, 0, [], g_0)]
def bk_M_ripOf_11 : List En := [(.iload 4, 2, 4, 0, [], g_0), (.bipush 6, 2, 6, 0, [], g_0), (.if_icmp .ge 40, 3, 16, 0, [], g_0), (.aload_n 0, 1, 0, 0, [], g_0), (.iload_n 1, 1, 1, 0, [], g_0), (.iload_n 3, 1, 3, 0, [], g_0), (.iload 4, 2, 4, 0, [], g_0), (.invokevirtual 221, 3, 3, 8, [1061, 1063, 50, 77, 1064], g_M_isObeyedBy), (.ifCond .eq 23, 3, 15, 0, [], g_0), (.iload_n 2, 1, 2, 0, [], g_0), (.iconst (-1), 1, 1, 1, [], g_0), (.if_icmp .ne 7, 3, 12, 0, [], g_0), (.iconst 2, 1, 2, 0, [], g_0), (.goto 13, 3, 14, 0, [], g_0)]
def bk_M_ripOf_12 : List En := [(.iload_n 2, 1, 2, 0, [], g_0), (.ifCond .ne 7, 3, 13, 0, [], g_0), (.iload_n 3, 1, 3, 0, [], g_0), (.goto 5, 3, 14, 0, [], g_0)]
def bk_M_ripOf_13 : List En := [(.iload 4, 2, 4, 0, [], g_0)]
def bk_M_ripOf_14 : List En := [(.ireturn, 1, 0, 0, [], g_0)]
def bk_M_ripOf_15 : List En := [(.iinc 4 1, 3, 4, 1, [0], g_0), (.goto (-41), 3, 11, 0, [], g_0)]
def bk_M_ripOf_16 : List En := [(.iinc 3 1, 3, 3, 1, [0], g_0), (.goto (-56), 3, 10, 0, [], g_0)]
def bk_M_ripOf_17 : List En := [(.iconst (-1), 1, 1, 1, [], g_0), (.ireturn, 1, 0, 0, [], g_0)]
def cd_M_ripOf : Cd := [(0, bk_M_ripOf_0), (19, bk_M_ripOf_1), (20, bk_M_ripOf_2), (21, bk_M_ripOf_3), (23, bk_M_ripOf_4), (48, bk_M_ripOf_5), (56, bk_M_ripOf_6), (57, bk_M_ripOf_7), (58, bk_M_ripOf_8), (64, bk_M_ripOf_9), (66, bk_M_ripOf_10), (75, bk_M_ripOf_11), (102, bk_M_ripOf_12), (110, bk_M_ripOf_13), (112, bk_M_ripOf_14), (113, bk_M_ripOf_15), (119, bk_M_ripOf_16), (125, bk_M_ripOf_17), (127, [])]
def Y_M_ripOf : Mth := (g_M_ripOf, RM, cd_M_ripOf)
set_option maxRecDepth 20000 in
theorem ok_M_ripOf : okM Y_M_ripOf = true := by decide +kernel
theorem en_M_ripOf {d : Nat} {u : Mem} {Q : Option MV → Mem → Prop} (as : List MV) (hc : cats as ≤ 5) (h : RunB d Y_M_ripOf 0 (argL as 5) [] u Q) : OKm d g_M_ripOf as u Q := OKm.of (Y := Y_M_ripOf) ok_M_ripOf hc h
theorem rb_M_ripOf_0 {d : Nat} {L : List (Option MV)} {st : List MV} {u : Mem} {Q : Option MV → Mem → Prop} (h : go d Y_M_ripOf Q bk_M_ripOf_0 0 L st u) : RunB (d + 1) Y_M_ripOf 0 L st u Q := run_go ok_M_ripOf (by decide) h
theorem rb_M_ripOf_1 {d : Nat} {L : List (Option MV)} {st : List MV} {u : Mem} {Q : Option MV → Mem → Prop} (h : go d Y_M_ripOf Q bk_M_ripOf_1 1 L st u) : RunB (d + 1) Y_M_ripOf 1 L st u Q := run_go ok_M_ripOf (by decide) h
theorem rb_M_ripOf_2 {d : Nat} {L : List (Option MV)} {st : List MV} {u : Mem} {Q : Option MV → Mem → Prop} (h : go d Y_M_ripOf Q bk_M_ripOf_2 2 L st u) : RunB (d + 1) Y_M_ripOf 2 L st u Q := run_go ok_M_ripOf (by decide) h
theorem rb_M_ripOf_3 {d : Nat} {L : List (Option MV)} {st : List MV} {u : Mem} {Q : Option MV → Mem → Prop} (h : go d Y_M_ripOf Q bk_M_ripOf_3 3 L st u) : RunB (d + 1) Y_M_ripOf 3 L st u Q := run_go ok_M_ripOf (by decide) h
theorem rb_M_ripOf_4 {d : Nat} {L : List (Option MV)} {st : List MV} {u : Mem} {Q : Option MV → Mem → Prop} (h : go d Y_M_ripOf Q bk_M_ripOf_4 4 L st u) : RunB (d + 1) Y_M_ripOf 4 L st u Q := run_go ok_M_ripOf (by decide) h
theorem rb_M_ripOf_5 {d : Nat} {L : List (Option MV)} {st : List MV} {u : Mem} {Q : Option MV → Mem → Prop} (h : go d Y_M_ripOf Q bk_M_ripOf_5 5 L st u) : RunB (d + 1) Y_M_ripOf 5 L st u Q := run_go ok_M_ripOf (by decide) h
theorem rb_M_ripOf_6 {d : Nat} {L : List (Option MV)} {st : List MV} {u : Mem} {Q : Option MV → Mem → Prop} (h : go d Y_M_ripOf Q bk_M_ripOf_6 6 L st u) : RunB (d + 1) Y_M_ripOf 6 L st u Q := run_go ok_M_ripOf (by decide) h
theorem rb_M_ripOf_7 {d : Nat} {L : List (Option MV)} {st : List MV} {u : Mem} {Q : Option MV → Mem → Prop} (h : go d Y_M_ripOf Q bk_M_ripOf_7 7 L st u) : RunB (d + 1) Y_M_ripOf 7 L st u Q := run_go ok_M_ripOf (by decide) h
theorem rb_M_ripOf_8 {d : Nat} {L : List (Option MV)} {st : List MV} {u : Mem} {Q : Option MV → Mem → Prop} (h : go d Y_M_ripOf Q bk_M_ripOf_8 8 L st u) : RunB (d + 1) Y_M_ripOf 8 L st u Q := run_go ok_M_ripOf (by decide) h
theorem rb_M_ripOf_9 {d : Nat} {L : List (Option MV)} {st : List MV} {u : Mem} {Q : Option MV → Mem → Prop} (h : go d Y_M_ripOf Q bk_M_ripOf_9 9 L st u) : RunB (d + 1) Y_M_ripOf 9 L st u Q := run_go ok_M_ripOf (by decide) h
theorem rb_M_ripOf_10 {d : Nat} {L : List (Option MV)} {st : List MV} {u : Mem} {Q : Option MV → Mem → Prop} (h : go d Y_M_ripOf Q bk_M_ripOf_10 10 L st u) : RunB (d + 1) Y_M_ripOf 10 L st u Q := run_go ok_M_ripOf (by decide) h
theorem rb_M_ripOf_11 {d : Nat} {L : List (Option MV)} {st : List MV} {u : Mem} {Q : Option MV → Mem → Prop} (h : go d Y_M_ripOf Q bk_M_ripOf_11 11 L st u) : RunB (d + 1) Y_M_ripOf 11 L st u Q := run_go ok_M_ripOf (by decide) h
theorem rb_M_ripOf_12 {d : Nat} {L : List (Option MV)} {st : List MV} {u : Mem} {Q : Option MV → Mem → Prop} (h : go d Y_M_ripOf Q bk_M_ripOf_12 12 L st u) : RunB (d + 1) Y_M_ripOf 12 L st u Q := run_go ok_M_ripOf (by decide) h
theorem rb_M_ripOf_13 {d : Nat} {L : List (Option MV)} {st : List MV} {u : Mem} {Q : Option MV → Mem → Prop} (h : go d Y_M_ripOf Q bk_M_ripOf_13 13 L st u) : RunB (d + 1) Y_M_ripOf 13 L st u Q := run_go ok_M_ripOf (by decide) h
theorem rb_M_ripOf_14 {d : Nat} {L : List (Option MV)} {st : List MV} {u : Mem} {Q : Option MV → Mem → Prop} (h : go d Y_M_ripOf Q bk_M_ripOf_14 14 L st u) : RunB (d + 1) Y_M_ripOf 14 L st u Q := run_go ok_M_ripOf (by decide) h
theorem rb_M_ripOf_15 {d : Nat} {L : List (Option MV)} {st : List MV} {u : Mem} {Q : Option MV → Mem → Prop} (h : go d Y_M_ripOf Q bk_M_ripOf_15 15 L st u) : RunB (d + 1) Y_M_ripOf 15 L st u Q := run_go ok_M_ripOf (by decide) h
theorem rb_M_ripOf_16 {d : Nat} {L : List (Option MV)} {st : List MV} {u : Mem} {Q : Option MV → Mem → Prop} (h : go d Y_M_ripOf Q bk_M_ripOf_16 16 L st u) : RunB (d + 1) Y_M_ripOf 16 L st u Q := run_go ok_M_ripOf (by decide) h
theorem rb_M_ripOf_17 {d : Nat} {L : List (Option MV)} {st : List MV} {u : Mem} {Q : Option MV → Mem → Prop} (h : go d Y_M_ripOf Q bk_M_ripOf_17 17 L st u) : RunB (d + 1) Y_M_ripOf 17 L st u Q := run_go ok_M_ripOf (by decide) h
def bk_M_rip_0 : List En := [(.aload_n 0, 1, 0, 0, [], g_0), (.invokevirtual 200, 3, 0, 8, [975, 977, 36, 77, 978], g_M_find), (.iload_n 1, 1, 1, 0, [], g_0), (.invokestatic 150, 3, 1, 1, [946, 947, 0, 77, 948], g_M_isDay), (.ifCond .eq 24, 3, 1, 0, [], g_0), (.iload_n 2, 1, 2, 0, [], g_0), (.i2l, 1, 0, 0, [], g_0), (.ldc2_w 225, 3, 1, 1, [1056], g_0), (.lconst 1, 1, 1, 0, [], g_0), (.invokestatic 70, 3, 3, 1, [845, 846, 0, 77, 847], g_M_in), (.ifCond .eq 12, 3, 1, 0, [], g_0), (.aload_n 0, 1, 0, 0, [], g_0), (.iload_n 1, 1, 1, 0, [], g_0), (.iload_n 2, 1, 2, 0, [], g_0), (.invokevirtual 227, 3, 2, 8, [1057, 1059, 49, 77, 1060], g_M_ripOf), (.goto 5, 3, 2, 0, [], g_0)]
def bk_M_rip_1 : List En := [(.bipush (-2), 2, 2, 1, [], g_0)]
def bk_M_rip_2 : List En := [(.ireturn, 1, 0, 0, [], g_0)]
def cd_M_rip : Cd := [(0, bk_M_rip_0), (32, bk_M_rip_1), (34, bk_M_rip_2), (35, [])]
def Y_M_rip : Mth := (g_M_rip, RM, cd_M_rip)
set_option maxRecDepth 20000 in
theorem ok_M_rip : okM Y_M_rip = true := by decide +kernel
theorem en_M_rip {d : Nat} {u : Mem} {Q : Option MV → Mem → Prop} (as : List MV) (hc : cats as ≤ 3) (h : RunB d Y_M_rip 0 (argL as 3) [] u Q) : OKm d g_M_rip as u Q := OKm.of (Y := Y_M_rip) ok_M_rip hc h
theorem rb_M_rip_0 {d : Nat} {L : List (Option MV)} {st : List MV} {u : Mem} {Q : Option MV → Mem → Prop} (h : go d Y_M_rip Q bk_M_rip_0 0 L st u) : RunB (d + 1) Y_M_rip 0 L st u Q := run_go ok_M_rip (by decide) h
theorem rb_M_rip_1 {d : Nat} {L : List (Option MV)} {st : List MV} {u : Mem} {Q : Option MV → Mem → Prop} (h : go d Y_M_rip Q bk_M_rip_1 1 L st u) : RunB (d + 1) Y_M_rip 1 L st u Q := run_go ok_M_rip (by decide) h
theorem rb_M_rip_2 {d : Nat} {L : List (Option MV)} {st : List MV} {u : Mem} {Q : Option MV → Mem → Prop} (h : go d Y_M_rip Q bk_M_rip_2 2 L st u) : RunB (d + 1) Y_M_rip 2 L st u Q := run_go ok_M_rip (by decide) h
def bk_M_wetOf_0 : List En := [(.aload_n 0, 1, 0, 0, [], g_0), (.getfield 34, 3, 8, 11, [763], g_0), (.iload_n 1, 1, 1, 0, [], g_0), (.iaload, 1, 0, 0, [], g_0), (.istore_n 2, 1, 2, 0, [], g_0), (.iconst 0, 1, 0, 0, [], g_0), (.istore_n 3, 1, 3, 0, [], g_0), (.iconst 0, 1, 0, 0, [], g_0), (.istore 4, 2, 4, 0, [], g_0)]
def bk_M_wetOf_1 : List En := [(.iload 4, 2, 4, 0, [], g_0), (.bipush 10, 2, 10, 0, [], g_0), (.if_icmp .ge 40, 3, 4, 0, [], g_0), (.aload_n 0, 1, 0, 0, [], g_0), (.getfield 34, 3, 8, 11, [763], g_0), (.iload_n 1, 1, 1, 0, [], g_0), (.iload 4, 2, 4, 0, [], g_0), (.iastore, 1, 0, 0, [], g_0), (.aload_n 0, 1, 0, 0, [], g_0), (.invokevirtual 197, 3, 0, 8, [979, 981, 37, 77, 982], g_M_lives), (.iload_n 3, 1, 3, 0, [], g_0), (.aload_n 0, 1, 0, 0, [], g_0), (.iload_n 1, 1, 1, 0, [], g_0), (.invokevirtual 203, 3, 1, 8, [1017, 1019, 44, 77, 1020], g_M_isObeyed), (.ifCond .eq 10, 3, 2, 0, [], g_0), (.iconst 1, 1, 1, 0, [], g_0), (.iload 4, 2, 4, 0, [], g_0), (.ishl, 1, 0, 0, [], g_0), (.goto 4, 3, 3, 0, [], g_0)]
def bk_M_wetOf_2 : List En := [(.iconst 0, 1, 0, 0, [], g_0)]
def bk_M_wetOf_3 : List En := [(.ior, 1, 0, 0, [], g_0), (.istore_n 3, 1, 3, 0, [], g_0), (.iinc 4 1, 3, 4, 1, [0], g_0), (.goto (-41), 3, 1, 0, [], g_0)]
def bk_M_wetOf_4 : List En := [(.aload_n 0, 1, 0, 0, [], g_0), (.getfield 34, 3, 8, 11, [763], g_0), (.iload_n 1, 1, 1, 0, [], g_0), (.iload_n 2, 1, 2, 0, [], g_0), (.iastore, 1, 0, 0, [], g_0), (.iload_n 3, 1, 3, 0, [], g_0), (.ireturn, 1, 0, 0, [], g_0)]
def cd_M_wetOf : Cd := [(0, bk_M_wetOf_0), (12, bk_M_wetOf_1), (47, bk_M_wetOf_2), (48, bk_M_wetOf_3), (56, bk_M_wetOf_4), (65, [])]
def Y_M_wetOf : Mth := (g_M_wetOf, RM, cd_M_wetOf)
set_option maxRecDepth 20000 in
theorem ok_M_wetOf : okM Y_M_wetOf = true := by decide +kernel
theorem en_M_wetOf {d : Nat} {u : Mem} {Q : Option MV → Mem → Prop} (as : List MV) (hc : cats as ≤ 5) (h : RunB d Y_M_wetOf 0 (argL as 5) [] u Q) : OKm d g_M_wetOf as u Q := OKm.of (Y := Y_M_wetOf) ok_M_wetOf hc h
theorem rb_M_wetOf_0 {d : Nat} {L : List (Option MV)} {st : List MV} {u : Mem} {Q : Option MV → Mem → Prop} (h : go d Y_M_wetOf Q bk_M_wetOf_0 0 L st u) : RunB (d + 1) Y_M_wetOf 0 L st u Q := run_go ok_M_wetOf (by decide) h
theorem rb_M_wetOf_1 {d : Nat} {L : List (Option MV)} {st : List MV} {u : Mem} {Q : Option MV → Mem → Prop} (h : go d Y_M_wetOf Q bk_M_wetOf_1 1 L st u) : RunB (d + 1) Y_M_wetOf 1 L st u Q := run_go ok_M_wetOf (by decide) h
theorem rb_M_wetOf_2 {d : Nat} {L : List (Option MV)} {st : List MV} {u : Mem} {Q : Option MV → Mem → Prop} (h : go d Y_M_wetOf Q bk_M_wetOf_2 2 L st u) : RunB (d + 1) Y_M_wetOf 2 L st u Q := run_go ok_M_wetOf (by decide) h
theorem rb_M_wetOf_3 {d : Nat} {L : List (Option MV)} {st : List MV} {u : Mem} {Q : Option MV → Mem → Prop} (h : go d Y_M_wetOf Q bk_M_wetOf_3 3 L st u) : RunB (d + 1) Y_M_wetOf 3 L st u Q := run_go ok_M_wetOf (by decide) h
theorem rb_M_wetOf_4 {d : Nat} {L : List (Option MV)} {st : List MV} {u : Mem} {Q : Option MV → Mem → Prop} (h : go d Y_M_wetOf Q bk_M_wetOf_4 4 L st u) : RunB (d + 1) Y_M_wetOf 4 L st u Q := run_go ok_M_wetOf (by decide) h
def bk_M_wet_0 : List En := [(.aload_n 0, 1, 0, 0, [], g_0), (.invokevirtual 200, 3, 0, 8, [975, 977, 36, 77, 978], g_M_find), (.iload_n 1, 1, 1, 0, [], g_0), (.invokestatic 150, 3, 1, 1, [946, 947, 0, 77, 948], g_M_isDay), (.ifCond .eq 11, 3, 1, 0, [], g_0), (.aload_n 0, 1, 0, 0, [], g_0), (.iload_n 1, 1, 1, 0, [], g_0), (.invokevirtual 230, 3, 1, 8, [1069, 1071, 51, 77, 1072], g_M_wetOf), (.goto 5, 3, 2, 0, [], g_0)]
def bk_M_wet_1 : List En := [(.bipush (-2), 2, 2, 1, [], g_0)]
def bk_M_wet_2 : List En := [(.ireturn, 1, 0, 0, [], g_0)]
def cd_M_wet : Cd := [(0, bk_M_wet_0), (19, bk_M_wet_1), (21, bk_M_wet_2), (22, [])]
def Y_M_wet : Mth := (g_M_wet, RM, cd_M_wet)
set_option maxRecDepth 20000 in
theorem ok_M_wet : okM Y_M_wet = true := by decide +kernel
theorem en_M_wet {d : Nat} {u : Mem} {Q : Option MV → Mem → Prop} (as : List MV) (hc : cats as ≤ 2) (h : RunB d Y_M_wet 0 (argL as 2) [] u Q) : OKm d g_M_wet as u Q := OKm.of (Y := Y_M_wet) ok_M_wet hc h
theorem rb_M_wet_0 {d : Nat} {L : List (Option MV)} {st : List MV} {u : Mem} {Q : Option MV → Mem → Prop} (h : go d Y_M_wet Q bk_M_wet_0 0 L st u) : RunB (d + 1) Y_M_wet 0 L st u Q := run_go ok_M_wet (by decide) h
theorem rb_M_wet_1 {d : Nat} {L : List (Option MV)} {st : List MV} {u : Mem} {Q : Option MV → Mem → Prop} (h : go d Y_M_wet Q bk_M_wet_1 1 L st u) : RunB (d + 1) Y_M_wet 1 L st u Q := run_go ok_M_wet (by decide) h
theorem rb_M_wet_2 {d : Nat} {L : List (Option MV)} {st : List MV} {u : Mem} {Q : Option MV → Mem → Prop} (h : go d Y_M_wet Q bk_M_wet_2 2 L st u) : RunB (d + 1) Y_M_wet 2 L st u Q := run_go ok_M_wet (by decide) h
def bk_M_pasteOf_0 : List En := [(.aload_n 0, 1, 0, 0, [], g_0), (.getfield 28, 3, 8, 8, [760], g_0), (.iconst 5, 1, 5, 0, [], g_0), (.iload_n 1, 1, 1, 0, [], g_0), (.imul, 1, 0, 0, [], g_0), (.iconst 3, 1, 3, 0, [], g_0), (.iadd, 1, 0, 0, [], g_0), (.iaload, 1, 0, 0, [], g_0), (.istore_n 3, 1, 3, 0, [], g_0), (.iconst (-1), 1, 1, 1, [], g_0), (.istore 4, 2, 4, 0, [], g_0), (.iconst (-1), 1, 1, 1, [], g_0), (.istore 5, 2, 5, 0, [], g_0), (.iconst 1, 1, 1, 0, [], g_0), (.istore 6, 2, 6, 0, [], g_0)]
def bk_M_pasteOf_1 : List En := [(.iload 6, 2, 6, 0, [], g_0), (.bipush 10, 2, 10, 0, [], g_0), (.if_icmp .ge 57, 3, 4, 0, [], g_0), (.aload_n 0, 1, 0, 0, [], g_0), (.getfield 28, 3, 8, 8, [760], g_0), (.iconst 5, 1, 5, 0, [], g_0), (.iload_n 1, 1, 1, 0, [], g_0), (.imul, 1, 0, 0, [], g_0), (.iconst 3, 1, 3, 0, [], g_0), (.iadd, 1, 0, 0, [], g_0), (.iload 6, 2, 6, 0, [], g_0), (.iastore, 1, 0, 0, [], g_0), (.aload_n 0, 1, 0, 0, [], g_0), (.invokevirtual 197, 3, 0, 8, [979, 981, 37, 77, 982], g_M_lives), (.aload_n 0, 1, 0, 0, [], g_0), (.iconst 0, 1, 0, 0, [], g_0), (.invokevirtual 209, 3, 1, 8, [1028, 1030, 45, 77, 1031], g_M_daysBy), (.istore 7, 2, 7, 0, [], g_0), (.iload 7, 2, 7, 0, [], g_0), (.iload 5, 2, 5, 0, [], g_0), (.if_icmp .le 8, 3, 2, 0, [], g_0), (.iload 6, 2, 6, 0, [], g_0), (.goto 5, 3, 3, 0, [], g_0)]
def bk_M_pasteOf_2 : List En := [(.iload 4, 2, 4, 0, [], g_0)]
def bk_M_pasteOf_3 : List En := [(.istore 4, 2, 4, 0, [], g_0), (.iload 7, 2, 7, 0, [], g_0), (.iload 5, 2, 5, 0, [], g_0), (.invokestatic 181, 3, 2, 1, [1010, 1011, 0, 77, 1012], g_M_greater), (.istore 5, 2, 5, 0, [], g_0), (.iinc 6 1, 3, 6, 1, [0], g_0), (.goto (-58), 3, 1, 0, [], g_0)]
def bk_M_pasteOf_4 : List En := [(.aload_n 0, 1, 0, 0, [], g_0), (.getfield 28, 3, 8, 8, [760], g_0), (.iconst 5, 1, 5, 0, [], g_0), (.iload_n 1, 1, 1, 0, [], g_0), (.imul, 1, 0, 0, [], g_0), (.iconst 3, 1, 3, 0, [], g_0), (.iadd, 1, 0, 0, [], g_0), (.iload_n 3, 1, 3, 0, [], g_0), (.iastore, 1, 0, 0, [], g_0), (.iload_n 2, 1, 2, 0, [], g_0), (.ifCond .ne 8, 3, 5, 0, [], g_0), (.iload 4, 2, 4, 0, [], g_0), (.goto 5, 3, 6, 0, [], g_0)]
def bk_M_pasteOf_5 : List En := [(.iload 5, 2, 5, 0, [], g_0)]
def bk_M_pasteOf_6 : List En := [(.ireturn, 1, 0, 0, [], g_0)]
def cd_M_pasteOf : Cd := [(0, bk_M_pasteOf_0), (20, bk_M_pasteOf_1), (62, bk_M_pasteOf_2), (64, bk_M_pasteOf_3), (81, bk_M_pasteOf_4), (101, bk_M_pasteOf_5), (103, bk_M_pasteOf_6), (104, [])]
def Y_M_pasteOf : Mth := (g_M_pasteOf, RM, cd_M_pasteOf)
set_option maxRecDepth 20000 in
theorem ok_M_pasteOf : okM Y_M_pasteOf = true := by decide +kernel
theorem en_M_pasteOf {d : Nat} {u : Mem} {Q : Option MV → Mem → Prop} (as : List MV) (hc : cats as ≤ 8) (h : RunB d Y_M_pasteOf 0 (argL as 8) [] u Q) : OKm d g_M_pasteOf as u Q := OKm.of (Y := Y_M_pasteOf) ok_M_pasteOf hc h
theorem rb_M_pasteOf_0 {d : Nat} {L : List (Option MV)} {st : List MV} {u : Mem} {Q : Option MV → Mem → Prop} (h : go d Y_M_pasteOf Q bk_M_pasteOf_0 0 L st u) : RunB (d + 1) Y_M_pasteOf 0 L st u Q := run_go ok_M_pasteOf (by decide) h
theorem rb_M_pasteOf_1 {d : Nat} {L : List (Option MV)} {st : List MV} {u : Mem} {Q : Option MV → Mem → Prop} (h : go d Y_M_pasteOf Q bk_M_pasteOf_1 1 L st u) : RunB (d + 1) Y_M_pasteOf 1 L st u Q := run_go ok_M_pasteOf (by decide) h
theorem rb_M_pasteOf_2 {d : Nat} {L : List (Option MV)} {st : List MV} {u : Mem} {Q : Option MV → Mem → Prop} (h : go d Y_M_pasteOf Q bk_M_pasteOf_2 2 L st u) : RunB (d + 1) Y_M_pasteOf 2 L st u Q := run_go ok_M_pasteOf (by decide) h
theorem rb_M_pasteOf_3 {d : Nat} {L : List (Option MV)} {st : List MV} {u : Mem} {Q : Option MV → Mem → Prop} (h : go d Y_M_pasteOf Q bk_M_pasteOf_3 3 L st u) : RunB (d + 1) Y_M_pasteOf 3 L st u Q := run_go ok_M_pasteOf (by decide) h
theorem rb_M_pasteOf_4 {d : Nat} {L : List (Option MV)} {st : List MV} {u : Mem} {Q : Option MV → Mem → Prop} (h : go d Y_M_pasteOf Q bk_M_pasteOf_4 4 L st u) : RunB (d + 1) Y_M_pasteOf 4 L st u Q := run_go ok_M_pasteOf (by decide) h
theorem rb_M_pasteOf_5 {d : Nat} {L : List (Option MV)} {st : List MV} {u : Mem} {Q : Option MV → Mem → Prop} (h : go d Y_M_pasteOf Q bk_M_pasteOf_5 5 L st u) : RunB (d + 1) Y_M_pasteOf 5 L st u Q := run_go ok_M_pasteOf (by decide) h
theorem rb_M_pasteOf_6 {d : Nat} {L : List (Option MV)} {st : List MV} {u : Mem} {Q : Option MV → Mem → Prop} (h : go d Y_M_pasteOf Q bk_M_pasteOf_6 6 L st u) : RunB (d + 1) Y_M_pasteOf 6 L st u Q := run_go ok_M_pasteOf (by decide) h
def bk_M_paste_0 : List En := [(.aload_n 0, 1, 0, 0, [], g_0), (.invokevirtual 200, 3, 0, 8, [975, 977, 36, 77, 978], g_M_find), (.aload_n 0, 1, 0, 0, [], g_0), (.iload_n 1, 1, 1, 0, [], g_0), (.invokevirtual 142, 3, 1, 8, [933, 935, 34, 77, 936], g_M_isPoster), (.ifCond .eq 19, 3, 1, 0, [], g_0), (.iload_n 2, 1, 2, 0, [], g_0), (.invokestatic 206, 3, 1, 1, [1025, 1026, 0, 77, 1027], g_M_isTwo), (.ifCond .eq 12, 3, 1, 0, [], g_0), (.aload_n 0, 1, 0, 0, [], g_0), (.iload_n 1, 1, 1, 0, [], g_0), (.iload_n 2, 1, 2, 0, [], g_0), (.invokevirtual 233, 3, 2, 8, [1077, 1079, 52, 77, 1080], g_M_pasteOf), (.goto 5, 3, 2, 0, [], g_0)]
def bk_M_paste_1 : List En := [(.bipush (-2), 2, 2, 1, [], g_0)]
def bk_M_paste_2 : List En := [(.ireturn, 1, 0, 0, [], g_0)]
def cd_M_paste : Cd := [(0, bk_M_paste_0), (28, bk_M_paste_1), (30, bk_M_paste_2), (31, [])]
def Y_M_paste : Mth := (g_M_paste, RM, cd_M_paste)
set_option maxRecDepth 20000 in
theorem ok_M_paste : okM Y_M_paste = true := by decide +kernel
theorem en_M_paste {d : Nat} {u : Mem} {Q : Option MV → Mem → Prop} (as : List MV) (hc : cats as ≤ 3) (h : RunB d Y_M_paste 0 (argL as 3) [] u Q) : OKm d g_M_paste as u Q := OKm.of (Y := Y_M_paste) ok_M_paste hc h
theorem rb_M_paste_0 {d : Nat} {L : List (Option MV)} {st : List MV} {u : Mem} {Q : Option MV → Mem → Prop} (h : go d Y_M_paste Q bk_M_paste_0 0 L st u) : RunB (d + 1) Y_M_paste 0 L st u Q := run_go ok_M_paste (by decide) h
theorem rb_M_paste_1 {d : Nat} {L : List (Option MV)} {st : List MV} {u : Mem} {Q : Option MV → Mem → Prop} (h : go d Y_M_paste Q bk_M_paste_1 1 L st u) : RunB (d + 1) Y_M_paste 1 L st u Q := run_go ok_M_paste (by decide) h
theorem rb_M_paste_2 {d : Nat} {L : List (Option MV)} {st : List MV} {u : Mem} {Q : Option MV → Mem → Prop} (h : go d Y_M_paste Q bk_M_paste_2 2 L st u) : RunB (d + 1) Y_M_paste 2 L st u Q := run_go ok_M_paste (by decide) h
def bk_M_stickOf_0 : List En := [(.aload_n 0, 1, 0, 0, [], g_0), (.getfield 28, 3, 8, 8, [760], g_0), (.iconst 5, 1, 5, 0, [], g_0), (.iload_n 1, 1, 1, 0, [], g_0), (.imul, 1, 0, 0, [], g_0), (.iaload, 1, 0, 0, [], g_0), (.istore_n 3, 1, 3, 0, [], g_0), (.aload_n 0, 1, 0, 0, [], g_0), (.getfield 28, 3, 8, 8, [760], g_0), (.iconst 5, 1, 5, 0, [], g_0), (.iload_n 1, 1, 1, 0, [], g_0), (.imul, 1, 0, 0, [], g_0), (.iconst 1, 1, 1, 0, [], g_0), (.iadd, 1, 0, 0, [], g_0), (.iaload, 1, 0, 0, [], g_0), (.istore 4, 2, 4, 0, [], g_0), (.iconst (-1), 1, 1, 1, [], g_0), (.istore 5, 2, 5, 0, [], g_0), (.bipush 20, 2, 20, 0, [], g_0), (.istore 6, 2, 6, 0, [], g_0), (.iconst 0, 1, 0, 0, [], g_0), (.istore 7, 2, 7, 0, [], g_0)]
def bk_M_stickOf_1 : List En := [(.iload 7, 2, 7, 0, [], g_0), (.bipush 120, 2, 120, 0, [], g_0), (.if_icmp .ge 96, 3, 8, 0, [], g_0), (.aload_n 0, 1, 0, 0, [], g_0), (.getfield 28, 3, 8, 8, [760], g_0), (.iconst 5, 1, 5, 0, [], g_0), (.iload_n 1, 1, 1, 0, [], g_0), (.imul, 1, 0, 0, [], g_0), (.iload 7, 2, 7, 0, [], g_0), (.bipush 6, 2, 6, 0, [], g_0), (.idiv, 1, 0, 0, [], g_0), (.iastore, 1, 0, 0, [], g_0), (.aload_n 0, 1, 0, 0, [], g_0), (.getfield 28, 3, 8, 8, [760], g_0), (.iconst 5, 1, 5, 0, [], g_0), (.iload_n 1, 1, 1, 0, [], g_0), (.imul, 1, 0, 0, [], g_0), (.iconst 1, 1, 1, 0, [], g_0), (.iadd, 1, 0, 0, [], g_0), (.iload 7, 2, 7, 0, [], g_0), (.bipush 6, 2, 6, 0, [], g_0), (.irem, 1, 0, 0, [], g_0), (.iastore, 1, 0, 0, [], g_0), (.aload_n 0, 1, 0, 0, [], g_0), (.invokevirtual 197, 3, 0, 8, [979, 981, 37, 77, 982], g_M_lives), (.aload_n 0, 1, 0, 0, [], g_0), (.iconst 1, 1, 1, 0, [], g_0), (.invokevirtual 209, 3, 1, 8, [1028, 1030, 45, 77, 1031], g_M_daysBy), (.istore 8, 2, 8, 0, [], g_0), (.iload 8, 2, 8, 0, [], g_0), (.iconst (-1), 1, 1, 1, [], g_0), (.if_icmp .eq 14, 3, 2, 0, [], g_0), (.iload 8, 2, 8, 0, [], g_0), (.iload 6, 2, 6, 0, [], g_0), (.if_icmp .ge 7, 3, 2, 0, [], g_0), (.iconst 1, 1, 1, 0, [], g_0), (.goto 4, 3, 3, 0, [], g_0)]
def bk_M_stickOf_2 : List En := [(.iconst 0, 1, 0, 0, [], g_0)]
def bk_M_stickOf_3 : List En := [(.istore 9, 2, 9, 0, [], g_0), (.iload 9, 2, 9, 0, [], g_0), (.ifCond .eq 8, 3, 4, 0, [], g_0), (.iload 7, 2, 7, 0, [], g_0), (.goto 5, 3, 5, 0, [], g_0)]
def bk_M_stickOf_4 : List En := [(.iload 5, 2, 5, 0, [], g_0)]
def bk_M_stickOf_5 : List En := [(.istore 5, 2, 5, 0, [], g_0), (.iload 9, 2, 9, 0, [], g_0), (.ifCond .eq 8, 3, 6, 0, [], g_0), (.iload 8, 2, 8, 0, [], g_0), (.goto 5, 3, 7, 0, [], g_0)]
def bk_M_stickOf_6 : List En := [(.iload 6, 2, 6, 0, [], g_0)]
def bk_M_stickOf_7 : List En := [(.istore 6, 2, 6, 0, [], g_0), (.iinc 7 1, 3, 7, 1, [0], g_0), (.goto (-97), 3, 1, 0, [], g_0)]
def bk_M_stickOf_8 : List En := [(.aload_n 0, 1, 0, 0, [], g_0), (.getfield 28, 3, 8, 8, [760], g_0), (.iconst 5, 1, 5, 0, [], g_0), (.iload_n 1, 1, 1, 0, [], g_0), (.imul, 1, 0, 0, [], g_0), (.iload_n 3, 1, 3, 0, [], g_0), (.iastore, 1, 0, 0, [], g_0), (.aload_n 0, 1, 0, 0, [], g_0), (.getfield 28, 3, 8, 8, [760], g_0), (.iconst 5, 1, 5, 0, [], g_0), (.iload_n 1, 1, 1, 0, [], g_0), (.imul, 1, 0, 0, [], g_0), (.iconst 1, 1, 1, 0, [], g_0), (.iadd, 1, 0, 0, [], g_0), (.iload 4, 2, 4, 0, [], g_0), (.iastore, 1, 0, 0, [], g_0), (.iload 5, 2, 5, 0, [], g_0), (.iconst (-1), 1, 1, 1, [], g_0), (.if_icmp .ne 7, 3, 9, 0, [], g_0), (.iconst (-1), 1, 1, 1, [], g_0), (.goto 30, 3, 12, 0, [], g_0)]
def bk_M_stickOf_9 : List En := [(.iload_n 2, 1, 2, 0, [], g_0), (.ifCond .ne 11, 3, 10, 0, [], g_0), (.iload 5, 2, 5, 0, [], g_0), (.bipush 6, 2, 6, 0, [], g_0), (.idiv, 1, 0, 0, [], g_0), (.goto 18, 3, 12, 0, [], g_0)]
def bk_M_stickOf_10 : List En := [(.iload_n 2, 1, 2, 0, [], g_0), (.iconst 1, 1, 1, 0, [], g_0), (.if_icmp .ne 11, 3, 11, 0, [], g_0), (.iload 5, 2, 5, 0, [], g_0), (.bipush 6, 2, 6, 0, [], g_0), (.irem, 1, 0, 0, [], g_0), (.goto 5, 3, 12, 0, [], g_0)]
def bk_M_stickOf_11 : List En := [(.iload 6, 2, 6, 0, [], g_0)]
def bk_M_stickOf_12 : List En := [(.ireturn, 1, 0, 0, [], g_0)]
def cd_M_stickOf : Cd := [(0, bk_M_stickOf_0), (31, bk_M_stickOf_1), (94, bk_M_stickOf_2), (95, bk_M_stickOf_3), (107, bk_M_stickOf_4), (109, bk_M_stickOf_5), (121, bk_M_stickOf_6), (123, bk_M_stickOf_7), (131, bk_M_stickOf_8), (162, bk_M_stickOf_9), (174, bk_M_stickOf_10), (187, bk_M_stickOf_11), (189, bk_M_stickOf_12), (190, [])]
def Y_M_stickOf : Mth := (g_M_stickOf, RM, cd_M_stickOf)
set_option maxRecDepth 20000 in
theorem ok_M_stickOf : okM Y_M_stickOf = true := by decide +kernel
theorem en_M_stickOf {d : Nat} {u : Mem} {Q : Option MV → Mem → Prop} (as : List MV) (hc : cats as ≤ 10) (h : RunB d Y_M_stickOf 0 (argL as 10) [] u Q) : OKm d g_M_stickOf as u Q := OKm.of (Y := Y_M_stickOf) ok_M_stickOf hc h
theorem rb_M_stickOf_0 {d : Nat} {L : List (Option MV)} {st : List MV} {u : Mem} {Q : Option MV → Mem → Prop} (h : go d Y_M_stickOf Q bk_M_stickOf_0 0 L st u) : RunB (d + 1) Y_M_stickOf 0 L st u Q := run_go ok_M_stickOf (by decide) h
theorem rb_M_stickOf_1 {d : Nat} {L : List (Option MV)} {st : List MV} {u : Mem} {Q : Option MV → Mem → Prop} (h : go d Y_M_stickOf Q bk_M_stickOf_1 1 L st u) : RunB (d + 1) Y_M_stickOf 1 L st u Q := run_go ok_M_stickOf (by decide) h
theorem rb_M_stickOf_2 {d : Nat} {L : List (Option MV)} {st : List MV} {u : Mem} {Q : Option MV → Mem → Prop} (h : go d Y_M_stickOf Q bk_M_stickOf_2 2 L st u) : RunB (d + 1) Y_M_stickOf 2 L st u Q := run_go ok_M_stickOf (by decide) h
theorem rb_M_stickOf_3 {d : Nat} {L : List (Option MV)} {st : List MV} {u : Mem} {Q : Option MV → Mem → Prop} (h : go d Y_M_stickOf Q bk_M_stickOf_3 3 L st u) : RunB (d + 1) Y_M_stickOf 3 L st u Q := run_go ok_M_stickOf (by decide) h
theorem rb_M_stickOf_4 {d : Nat} {L : List (Option MV)} {st : List MV} {u : Mem} {Q : Option MV → Mem → Prop} (h : go d Y_M_stickOf Q bk_M_stickOf_4 4 L st u) : RunB (d + 1) Y_M_stickOf 4 L st u Q := run_go ok_M_stickOf (by decide) h
theorem rb_M_stickOf_5 {d : Nat} {L : List (Option MV)} {st : List MV} {u : Mem} {Q : Option MV → Mem → Prop} (h : go d Y_M_stickOf Q bk_M_stickOf_5 5 L st u) : RunB (d + 1) Y_M_stickOf 5 L st u Q := run_go ok_M_stickOf (by decide) h
theorem rb_M_stickOf_6 {d : Nat} {L : List (Option MV)} {st : List MV} {u : Mem} {Q : Option MV → Mem → Prop} (h : go d Y_M_stickOf Q bk_M_stickOf_6 6 L st u) : RunB (d + 1) Y_M_stickOf 6 L st u Q := run_go ok_M_stickOf (by decide) h
theorem rb_M_stickOf_7 {d : Nat} {L : List (Option MV)} {st : List MV} {u : Mem} {Q : Option MV → Mem → Prop} (h : go d Y_M_stickOf Q bk_M_stickOf_7 7 L st u) : RunB (d + 1) Y_M_stickOf 7 L st u Q := run_go ok_M_stickOf (by decide) h
theorem rb_M_stickOf_8 {d : Nat} {L : List (Option MV)} {st : List MV} {u : Mem} {Q : Option MV → Mem → Prop} (h : go d Y_M_stickOf Q bk_M_stickOf_8 8 L st u) : RunB (d + 1) Y_M_stickOf 8 L st u Q := run_go ok_M_stickOf (by decide) h
theorem rb_M_stickOf_9 {d : Nat} {L : List (Option MV)} {st : List MV} {u : Mem} {Q : Option MV → Mem → Prop} (h : go d Y_M_stickOf Q bk_M_stickOf_9 9 L st u) : RunB (d + 1) Y_M_stickOf 9 L st u Q := run_go ok_M_stickOf (by decide) h
theorem rb_M_stickOf_10 {d : Nat} {L : List (Option MV)} {st : List MV} {u : Mem} {Q : Option MV → Mem → Prop} (h : go d Y_M_stickOf Q bk_M_stickOf_10 10 L st u) : RunB (d + 1) Y_M_stickOf 10 L st u Q := run_go ok_M_stickOf (by decide) h
theorem rb_M_stickOf_11 {d : Nat} {L : List (Option MV)} {st : List MV} {u : Mem} {Q : Option MV → Mem → Prop} (h : go d Y_M_stickOf Q bk_M_stickOf_11 11 L st u) : RunB (d + 1) Y_M_stickOf 11 L st u Q := run_go ok_M_stickOf (by decide) h
theorem rb_M_stickOf_12 {d : Nat} {L : List (Option MV)} {st : List MV} {u : Mem} {Q : Option MV → Mem → Prop} (h : go d Y_M_stickOf Q bk_M_stickOf_12 12 L st u) : RunB (d + 1) Y_M_stickOf 12 L st u Q := run_go ok_M_stickOf (by decide) h
def bk_M_stick_0 : List En := [(.aload_n 0, 1, 0, 0, [], g_0), (.invokevirtual 200, 3, 0, 8, [975, 977, 36, 77, 978], g_M_find), (.aload_n 0, 1, 0, 0, [], g_0), (.iload_n 1, 1, 1, 0, [], g_0), (.invokevirtual 142, 3, 1, 8, [933, 935, 34, 77, 936], g_M_isPoster), (.ifCond .eq 24, 3, 1, 0, [], g_0), (.iload_n 2, 1, 2, 0, [], g_0), (.i2l, 1, 0, 0, [], g_0), (.lconst 0, 1, 0, 0, [], g_0), (.ldc2_w 83, 3, 2, 0, [848], g_0), (.invokestatic 70, 3, 3, 1, [845, 846, 0, 77, 847], g_M_in), (.ifCond .eq 12, 3, 1, 0, [], g_0), (.aload_n 0, 1, 0, 0, [], g_0), (.iload_n 1, 1, 1, 0, [], g_0), (.iload_n 2, 1, 2, 0, [], g_0), (.invokevirtual 236, 3, 2, 8, [1085, 1087, 53, 77, 1088], g_M_stickOf), (.goto 5, 3, 2, 0, [], g_0)]
def bk_M_stick_1 : List En := [(.bipush (-2), 2, 2, 1, [], g_0)]
def bk_M_stick_2 : List En := [(.ireturn, 1, 0, 0, [], g_0)]
def cd_M_stick : Cd := [(0, bk_M_stick_0), (33, bk_M_stick_1), (35, bk_M_stick_2), (36, [])]
def Y_M_stick : Mth := (g_M_stick, RM, cd_M_stick)
set_option maxRecDepth 20000 in
theorem ok_M_stick : okM Y_M_stick = true := by decide +kernel
theorem en_M_stick {d : Nat} {u : Mem} {Q : Option MV → Mem → Prop} (as : List MV) (hc : cats as ≤ 3) (h : RunB d Y_M_stick 0 (argL as 3) [] u Q) : OKm d g_M_stick as u Q := OKm.of (Y := Y_M_stick) ok_M_stick hc h
theorem rb_M_stick_0 {d : Nat} {L : List (Option MV)} {st : List MV} {u : Mem} {Q : Option MV → Mem → Prop} (h : go d Y_M_stick Q bk_M_stick_0 0 L st u) : RunB (d + 1) Y_M_stick 0 L st u Q := run_go ok_M_stick (by decide) h
theorem rb_M_stick_1 {d : Nat} {L : List (Option MV)} {st : List MV} {u : Mem} {Q : Option MV → Mem → Prop} (h : go d Y_M_stick Q bk_M_stick_1 1 L st u) : RunB (d + 1) Y_M_stick 1 L st u Q := run_go ok_M_stick (by decide) h
theorem rb_M_stick_2 {d : Nat} {L : List (Option MV)} {st : List MV} {u : Mem} {Q : Option MV → Mem → Prop} (h : go d Y_M_stick Q bk_M_stick_2 2 L st u) : RunB (d + 1) Y_M_stick 2 L st u Q := run_go ok_M_stick (by decide) h
def bk_M_seen_0 : List En := [(.iload_n 1, 1, 1, 0, [], g_0), (.invokestatic 150, 3, 1, 1, [946, 947, 0, 77, 948], g_M_isDay), (.ifCond .eq 22, 3, 1, 0, [], g_0), (.iload_n 2, 1, 2, 0, [], g_0), (.invokestatic 153, 3, 1, 1, [954, 955, 0, 77, 956], g_M_isColumn), (.ifCond .eq 15, 3, 1, 0, [], g_0), (.iload_n 3, 1, 3, 0, [], g_0), (.i2l, 1, 0, 0, [], g_0), (.lconst 0, 1, 0, 0, [], g_0), (.ldc2_w 145, 3, 8, 0, [937], g_0), (.invokestatic 70, 3, 3, 1, [845, 846, 0, 77, 847], g_M_in), (.ifCond .ne 6, 3, 2, 0, [], g_0)]
def bk_M_seen_1 : List En := [(.bipush (-2), 2, 2, 1, [], g_0), (.ireturn, 1, 0, 0, [], g_0)]
def bk_M_seen_2 : List En := [(.aload_n 0, 1, 0, 0, [], g_0), (.getfield 239, 3, 8, 23, [775], g_0), (.bipush 8, 2, 8, 0, [], g_0), (.if_icmp .ne 6, 3, 3, 0, [], g_0), (.bipush (-4), 2, 4, 1, [], g_0), (.ireturn, 1, 0, 0, [], g_0)]
def bk_M_seen_3 : List En := [(.aload_n 0, 1, 0, 0, [], g_0), (.getfield 55, 3, 8, 24, [776], g_0), (.iconst 3, 1, 3, 0, [], g_0), (.aload_n 0, 1, 0, 0, [], g_0), (.getfield 239, 3, 8, 23, [775], g_0), (.imul, 1, 0, 0, [], g_0), (.iload_n 1, 1, 1, 0, [], g_0), (.iastore, 1, 0, 0, [], g_0), (.aload_n 0, 1, 0, 0, [], g_0), (.getfield 55, 3, 8, 24, [776], g_0), (.iconst 3, 1, 3, 0, [], g_0), (.aload_n 0, 1, 0, 0, [], g_0), (.getfield 239, 3, 8, 23, [775], g_0), (.imul, 1, 0, 0, [], g_0), (.iconst 1, 1, 1, 0, [], g_0), (.iadd, 1, 0, 0, [], g_0), (.iload_n 2, 1, 2, 0, [], g_0), (.iastore, 1, 0, 0, [], g_0), (.aload_n 0, 1, 0, 0, [], g_0), (.getfield 55, 3, 8, 24, [776], g_0), (.iconst 3, 1, 3, 0, [], g_0), (.aload_n 0, 1, 0, 0, [], g_0), (.getfield 239, 3, 8, 23, [775], g_0), (.imul, 1, 0, 0, [], g_0), (.iconst 2, 1, 2, 0, [], g_0), (.iadd, 1, 0, 0, [], g_0), (.iload_n 3, 1, 3, 0, [], g_0), (.iastore, 1, 0, 0, [], g_0), (.aload_n 0, 1, 0, 0, [], g_0), (.dup, 1, 0, 0, [], g_0), (.getfield 239, 3, 8, 23, [775], g_0), (.iconst 1, 1, 1, 0, [], g_0), (.iadd, 1, 0, 0, [], g_0), (.putfield 239, 3, 8, 23, [775], g_0), (.aload_n 0, 1, 0, 0, [], g_0), (.getfield 239, 3, 8, 23, [775], g_0), (.ireturn, 1, 0, 0, [], g_0)]
def cd_M_seen : Cd := [(0, bk_M_seen_0), (26, bk_M_seen_1), (29, bk_M_seen_2), (41, bk_M_seen_3), (96, [])]
def Y_M_seen : Mth := (g_M_seen, RM, cd_M_seen)
set_option maxRecDepth 20000 in
theorem ok_M_seen : okM Y_M_seen = true := by decide +kernel
theorem en_M_seen {d : Nat} {u : Mem} {Q : Option MV → Mem → Prop} (as : List MV) (hc : cats as ≤ 4) (h : RunB d Y_M_seen 0 (argL as 4) [] u Q) : OKm d g_M_seen as u Q := OKm.of (Y := Y_M_seen) ok_M_seen hc h
theorem rb_M_seen_0 {d : Nat} {L : List (Option MV)} {st : List MV} {u : Mem} {Q : Option MV → Mem → Prop} (h : go d Y_M_seen Q bk_M_seen_0 0 L st u) : RunB (d + 1) Y_M_seen 0 L st u Q := run_go ok_M_seen (by decide) h
theorem rb_M_seen_1 {d : Nat} {L : List (Option MV)} {st : List MV} {u : Mem} {Q : Option MV → Mem → Prop} (h : go d Y_M_seen Q bk_M_seen_1 1 L st u) : RunB (d + 1) Y_M_seen 1 L st u Q := run_go ok_M_seen (by decide) h
theorem rb_M_seen_2 {d : Nat} {L : List (Option MV)} {st : List MV} {u : Mem} {Q : Option MV → Mem → Prop} (h : go d Y_M_seen Q bk_M_seen_2 2 L st u) : RunB (d + 1) Y_M_seen 2 L st u Q := run_go ok_M_seen (by decide) h
theorem rb_M_seen_3 {d : Nat} {L : List (Option MV)} {st : List MV} {u : Mem} {Q : Option MV → Mem → Prop} (h : go d Y_M_seen Q bk_M_seen_3 3 L st u) : RunB (d + 1) Y_M_seen 3 L st u Q := run_go ok_M_seen (by decide) h
def bk_M_forget_0 : List En := [(.aload_n 0, 1, 0, 0, [], g_0), (.getfield 239, 3, 8, 23, [775], g_0), (.istore_n 1, 1, 1, 0, [], g_0), (.aload_n 0, 1, 0, 0, [], g_0), (.iconst 0, 1, 0, 0, [], g_0), (.putfield 239, 3, 8, 23, [775], g_0), (.iload_n 1, 1, 1, 0, [], g_0), (.ireturn, 1, 0, 0, [], g_0)]
def cd_M_forget : Cd := [(0, bk_M_forget_0), (12, [])]
def Y_M_forget : Mth := (g_M_forget, RM, cd_M_forget)
set_option maxRecDepth 20000 in
theorem ok_M_forget : okM Y_M_forget = true := by decide +kernel
theorem en_M_forget {d : Nat} {u : Mem} {Q : Option MV → Mem → Prop} (as : List MV) (hc : cats as ≤ 2) (h : RunB d Y_M_forget 0 (argL as 2) [] u Q) : OKm d g_M_forget as u Q := OKm.of (Y := Y_M_forget) ok_M_forget hc h
theorem rb_M_forget_0 {d : Nat} {L : List (Option MV)} {st : List MV} {u : Mem} {Q : Option MV → Mem → Prop} (h : go d Y_M_forget Q bk_M_forget_0 0 L st u) : RunB (d + 1) Y_M_forget 0 L st u Q := run_go ok_M_forget (by decide) h
def bk_M_isSeen_0 : List En := [(.aload_n 0, 1, 0, 0, [], g_0), (.invokevirtual 197, 3, 0, 8, [979, 981, 37, 77, 982], g_M_lives), (.iconst 1, 1, 1, 0, [], g_0), (.istore_n 1, 1, 1, 0, [], g_0), (.iconst 0, 1, 0, 0, [], g_0), (.istore_n 2, 1, 2, 0, [], g_0)]
def bk_M_isSeen_1 : List En := [(.iload_n 2, 1, 2, 0, [], g_0), (.aload_n 0, 1, 0, 0, [], g_0), (.getfield 239, 3, 8, 23, [775], g_0), (.if_icmp .ge 74, 3, 6, 0, [], g_0), (.aload_n 0, 1, 0, 0, [], g_0), (.getfield 52, 3, 8, 22, [774], g_0), (.bipush 36, 2, 36, 0, [], g_0), (.aload_n 0, 1, 0, 0, [], g_0), (.getfield 55, 3, 8, 24, [776], g_0), (.iconst 3, 1, 3, 0, [], g_0), (.iload_n 2, 1, 2, 0, [], g_0), (.imul, 1, 0, 0, [], g_0), (.iaload, 1, 0, 0, [], g_0), (.imul, 1, 0, 0, [], g_0), (.bipush 6, 2, 6, 0, [], g_0), (.aload_n 0, 1, 0, 0, [], g_0), (.getfield 55, 3, 8, 24, [776], g_0), (.iconst 3, 1, 3, 0, [], g_0), (.iload_n 2, 1, 2, 0, [], g_0), (.imul, 1, 0, 0, [], g_0), (.iconst 1, 1, 1, 0, [], g_0), (.iadd, 1, 0, 0, [], g_0), (.iaload, 1, 0, 0, [], g_0), (.imul, 1, 0, 0, [], g_0), (.iadd, 1, 0, 0, [], g_0), (.iaload, 1, 0, 0, [], g_0), (.istore_n 3, 1, 3, 0, [], g_0), (.iload_n 1, 1, 1, 0, [], g_0), (.ifCond .eq 31, 3, 4, 0, [], g_0), (.iload_n 3, 1, 3, 0, [], g_0), (.iconst (-1), 1, 1, 1, [], g_0), (.if_icmp .ne 8, 3, 2, 0, [], g_0), (.bipush 8, 2, 8, 0, [], g_0), (.goto 4, 3, 3, 0, [], g_0)]
def bk_M_isSeen_2 : List En := [(.iload_n 3, 1, 3, 0, [], g_0)]
def bk_M_isSeen_3 : List En := [(.aload_n 0, 1, 0, 0, [], g_0), (.getfield 55, 3, 8, 24, [776], g_0), (.iconst 3, 1, 3, 0, [], g_0), (.iload_n 2, 1, 2, 0, [], g_0), (.imul, 1, 0, 0, [], g_0), (.iconst 2, 1, 2, 0, [], g_0), (.iadd, 1, 0, 0, [], g_0), (.iaload, 1, 0, 0, [], g_0), (.if_icmp .ne 7, 3, 4, 0, [], g_0), (.iconst 1, 1, 1, 0, [], g_0), (.goto 4, 3, 5, 0, [], g_0)]
def bk_M_isSeen_4 : List En := [(.iconst 0, 1, 0, 0, [], g_0)]
def bk_M_isSeen_5 : List En := [(.istore_n 1, 1, 1, 0, [], g_0), (.iinc 2 1, 3, 2, 1, [0], g_0), (.goto (-76), 3, 1, 0, [], g_0)]
def bk_M_isSeen_6 : List En := [(.iload_n 1, 1, 1, 0, [], g_0), (.ireturn, 1, 0, 1, [], g_0)]
def cd_M_isSeen : Cd := [(0, bk_M_isSeen_0), (8, bk_M_isSeen_1), (61, bk_M_isSeen_2), (62, bk_M_isSeen_3), (79, bk_M_isSeen_4), (80, bk_M_isSeen_5), (87, bk_M_isSeen_6), (89, [])]
def Y_M_isSeen : Mth := (g_M_isSeen, RM, cd_M_isSeen)
set_option maxRecDepth 20000 in
theorem ok_M_isSeen : okM Y_M_isSeen = true := by decide +kernel
theorem en_M_isSeen {d : Nat} {u : Mem} {Q : Option MV → Mem → Prop} (as : List MV) (hc : cats as ≤ 4) (h : RunB d Y_M_isSeen 0 (argL as 4) [] u Q) : OKm d g_M_isSeen as u Q := OKm.of (Y := Y_M_isSeen) ok_M_isSeen hc h
theorem rb_M_isSeen_0 {d : Nat} {L : List (Option MV)} {st : List MV} {u : Mem} {Q : Option MV → Mem → Prop} (h : go d Y_M_isSeen Q bk_M_isSeen_0 0 L st u) : RunB (d + 1) Y_M_isSeen 0 L st u Q := run_go ok_M_isSeen (by decide) h
theorem rb_M_isSeen_1 {d : Nat} {L : List (Option MV)} {st : List MV} {u : Mem} {Q : Option MV → Mem → Prop} (h : go d Y_M_isSeen Q bk_M_isSeen_1 1 L st u) : RunB (d + 1) Y_M_isSeen 1 L st u Q := run_go ok_M_isSeen (by decide) h
theorem rb_M_isSeen_2 {d : Nat} {L : List (Option MV)} {st : List MV} {u : Mem} {Q : Option MV → Mem → Prop} (h : go d Y_M_isSeen Q bk_M_isSeen_2 2 L st u) : RunB (d + 1) Y_M_isSeen 2 L st u Q := run_go ok_M_isSeen (by decide) h
theorem rb_M_isSeen_3 {d : Nat} {L : List (Option MV)} {st : List MV} {u : Mem} {Q : Option MV → Mem → Prop} (h : go d Y_M_isSeen Q bk_M_isSeen_3 3 L st u) : RunB (d + 1) Y_M_isSeen 3 L st u Q := run_go ok_M_isSeen (by decide) h
theorem rb_M_isSeen_4 {d : Nat} {L : List (Option MV)} {st : List MV} {u : Mem} {Q : Option MV → Mem → Prop} (h : go d Y_M_isSeen Q bk_M_isSeen_4 4 L st u) : RunB (d + 1) Y_M_isSeen 4 L st u Q := run_go ok_M_isSeen (by decide) h
theorem rb_M_isSeen_5 {d : Nat} {L : List (Option MV)} {st : List MV} {u : Mem} {Q : Option MV → Mem → Prop} (h : go d Y_M_isSeen Q bk_M_isSeen_5 5 L st u) : RunB (d + 1) Y_M_isSeen 5 L st u Q := run_go ok_M_isSeen (by decide) h
theorem rb_M_isSeen_6 {d : Nat} {L : List (Option MV)} {st : List MV} {u : Mem} {Q : Option MV → Mem → Prop} (h : go d Y_M_isSeen Q bk_M_isSeen_6 6 L st u) : RunB (d + 1) Y_M_isSeen 6 L st u Q := run_go ok_M_isSeen (by decide) h
def bk_M_neverNow_0 : List En := [(.iconst 0, 1, 0, 0, [], g_0), (.istore_n 1, 1, 1, 0, [], g_0), (.iconst 0, 1, 0, 0, [], g_0), (.istore_n 2, 1, 2, 0, [], g_0)]
def bk_M_neverNow_1 : List En := [(.iload_n 2, 1, 2, 0, [], g_0), (.aload_n 0, 1, 0, 0, [], g_0), (.getfield 156, 3, 8, 13, [765], g_0), (.if_icmp .ge 33, 3, 4, 0, [], g_0), (.aload_n 0, 1, 0, 0, [], g_0), (.iconst 1, 1, 1, 0, [], g_0), (.iload_n 2, 1, 2, 0, [], g_0), (.ishl, 1, 0, 0, [], g_0), (.putfield 161, 3, 8, 15, [767], g_0), (.iload_n 1, 1, 1, 0, [], g_0), (.aload_n 0, 1, 0, 0, [], g_0), (.invokevirtual 242, 3, 0, 8, [1105, 1107, 55, 77, 1108], g_M_isSeen), (.ifCond .eq 9, 3, 2, 0, [], g_0), (.iconst 1, 1, 1, 0, [], g_0), (.iload_n 2, 1, 2, 0, [], g_0), (.ishl, 1, 0, 0, [], g_0), (.goto 4, 3, 3, 0, [], g_0)]
def bk_M_neverNow_2 : List En := [(.iconst 0, 1, 0, 0, [], g_0)]
def bk_M_neverNow_3 : List En := [(.ior, 1, 0, 0, [], g_0), (.istore_n 1, 1, 1, 0, [], g_0), (.iinc 2 1, 3, 2, 1, [0], g_0), (.goto (-35), 3, 1, 0, [], g_0)]
def bk_M_neverNow_4 : List En := [(.aload_n 0, 1, 0, 0, [], g_0), (.iconst 0, 1, 0, 0, [], g_0), (.putfield 161, 3, 8, 15, [767], g_0), (.iload_n 1, 1, 1, 0, [], g_0), (.ireturn, 1, 0, 0, [], g_0)]
def cd_M_neverNow : Cd := [(0, bk_M_neverNow_0), (4, bk_M_neverNow_1), (33, bk_M_neverNow_2), (34, bk_M_neverNow_3), (42, bk_M_neverNow_4), (49, [])]
def Y_M_neverNow : Mth := (g_M_neverNow, RM, cd_M_neverNow)
set_option maxRecDepth 20000 in
theorem ok_M_neverNow : okM Y_M_neverNow = true := by decide +kernel
theorem en_M_neverNow {d : Nat} {u : Mem} {Q : Option MV → Mem → Prop} (as : List MV) (hc : cats as ≤ 3) (h : RunB d Y_M_neverNow 0 (argL as 3) [] u Q) : OKm d g_M_neverNow as u Q := OKm.of (Y := Y_M_neverNow) ok_M_neverNow hc h
theorem rb_M_neverNow_0 {d : Nat} {L : List (Option MV)} {st : List MV} {u : Mem} {Q : Option MV → Mem → Prop} (h : go d Y_M_neverNow Q bk_M_neverNow_0 0 L st u) : RunB (d + 1) Y_M_neverNow 0 L st u Q := run_go ok_M_neverNow (by decide) h
theorem rb_M_neverNow_1 {d : Nat} {L : List (Option MV)} {st : List MV} {u : Mem} {Q : Option MV → Mem → Prop} (h : go d Y_M_neverNow Q bk_M_neverNow_1 1 L st u) : RunB (d + 1) Y_M_neverNow 1 L st u Q := run_go ok_M_neverNow (by decide) h
theorem rb_M_neverNow_2 {d : Nat} {L : List (Option MV)} {st : List MV} {u : Mem} {Q : Option MV → Mem → Prop} (h : go d Y_M_neverNow Q bk_M_neverNow_2 2 L st u) : RunB (d + 1) Y_M_neverNow 2 L st u Q := run_go ok_M_neverNow (by decide) h
theorem rb_M_neverNow_3 {d : Nat} {L : List (Option MV)} {st : List MV} {u : Mem} {Q : Option MV → Mem → Prop} (h : go d Y_M_neverNow Q bk_M_neverNow_3 3 L st u) : RunB (d + 1) Y_M_neverNow 3 L st u Q := run_go ok_M_neverNow (by decide) h
theorem rb_M_neverNow_4 {d : Nat} {L : List (Option MV)} {st : List MV} {u : Mem} {Q : Option MV → Mem → Prop} (h : go d Y_M_neverNow Q bk_M_neverNow_4 4 L st u) : RunB (d + 1) Y_M_neverNow 4 L st u Q := run_go ok_M_neverNow (by decide) h
def bk_M_never_0 : List En := [(.aload_n 0, 1, 0, 0, [], g_0), (.invokevirtual 200, 3, 0, 8, [975, 977, 36, 77, 978], g_M_find), (.aload_n 0, 1, 0, 0, [], g_0), (.invokevirtual 246, 3, 0, 8, [1101, 1103, 54, 77, 1104], g_M_neverNow), (.ireturn, 1, 0, 0, [], g_0)]
def cd_M_never : Cd := [(0, bk_M_never_0), (9, [])]
def Y_M_never : Mth := (g_M_never, RM, cd_M_never)
set_option maxRecDepth 20000 in
theorem ok_M_never : okM Y_M_never = true := by decide +kernel
theorem en_M_never {d : Nat} {u : Mem} {Q : Option MV → Mem → Prop} (as : List MV) (hc : cats as ≤ 1) (h : RunB d Y_M_never 0 (argL as 1) [] u Q) : OKm d g_M_never as u Q := OKm.of (Y := Y_M_never) ok_M_never hc h
theorem rb_M_never_0 {d : Nat} {L : List (Option MV)} {st : List MV} {u : Mem} {Q : Option MV → Mem → Prop} (h : go d Y_M_never Q bk_M_never_0 0 L st u) : RunB (d + 1) Y_M_never 0 L st u Q := run_go ok_M_never (by decide) h
def bk_M_thicksOf_0 : List En := [(.aload_n 0, 1, 0, 0, [], g_0), (.getfield 28, 3, 8, 8, [760], g_0), (.iconst 5, 1, 5, 0, [], g_0), (.iload_n 1, 1, 1, 0, [], g_0), (.imul, 1, 0, 0, [], g_0), (.iconst 3, 1, 3, 0, [], g_0), (.iadd, 1, 0, 0, [], g_0), (.iaload, 1, 0, 0, [], g_0), (.istore_n 2, 1, 2, 0, [], g_0), (.iconst 0, 1, 0, 0, [], g_0), (.istore_n 3, 1, 3, 0, [], g_0), (.iconst 1, 1, 1, 0, [], g_0), (.istore 4, 2, 4, 0, [], g_0)]
def bk_M_thicksOf_1 : List En := [(.iload 4, 2, 4, 0, [], g_0), (.bipush 10, 2, 10, 0, [], g_0), (.if_icmp .ge 39, 3, 4, 0, [], g_0), (.aload_n 0, 1, 0, 0, [], g_0), (.getfield 28, 3, 8, 8, [760], g_0), (.iconst 5, 1, 5, 0, [], g_0), (.iload_n 1, 1, 1, 0, [], g_0), (.imul, 1, 0, 0, [], g_0), (.iconst 3, 1, 3, 0, [], g_0), (.iadd, 1, 0, 0, [], g_0), (.iload 4, 2, 4, 0, [], g_0), (.iastore, 1, 0, 0, [], g_0), (.iload_n 3, 1, 3, 0, [], g_0), (.aload_n 0, 1, 0, 0, [], g_0), (.invokevirtual 242, 3, 0, 8, [1105, 1107, 55, 77, 1108], g_M_isSeen), (.ifCond .eq 10, 3, 2, 0, [], g_0), (.iconst 1, 1, 1, 0, [], g_0), (.iload 4, 2, 4, 0, [], g_0), (.ishl, 1, 0, 0, [], g_0), (.goto 4, 3, 3, 0, [], g_0)]
def bk_M_thicksOf_2 : List En := [(.iconst 0, 1, 0, 0, [], g_0)]
def bk_M_thicksOf_3 : List En := [(.ior, 1, 0, 0, [], g_0), (.istore_n 3, 1, 3, 0, [], g_0), (.iinc 4 1, 3, 4, 1, [0], g_0), (.goto (-40), 3, 1, 0, [], g_0)]
def bk_M_thicksOf_4 : List En := [(.aload_n 0, 1, 0, 0, [], g_0), (.getfield 28, 3, 8, 8, [760], g_0), (.iconst 5, 1, 5, 0, [], g_0), (.iload_n 1, 1, 1, 0, [], g_0), (.imul, 1, 0, 0, [], g_0), (.iconst 3, 1, 3, 0, [], g_0), (.iadd, 1, 0, 0, [], g_0), (.iload_n 2, 1, 2, 0, [], g_0), (.iastore, 1, 0, 0, [], g_0), (.iload_n 3, 1, 3, 0, [], g_0), (.ireturn, 1, 0, 0, [], g_0)]
def cd_M_thicksOf : Cd := [(0, bk_M_thicksOf_0), (16, bk_M_thicksOf_1), (50, bk_M_thicksOf_2), (51, bk_M_thicksOf_3), (59, bk_M_thicksOf_4), (72, [])]
def Y_M_thicksOf : Mth := (g_M_thicksOf, RM, cd_M_thicksOf)
set_option maxRecDepth 20000 in
theorem ok_M_thicksOf : okM Y_M_thicksOf = true := by decide +kernel
theorem en_M_thicksOf {d : Nat} {u : Mem} {Q : Option MV → Mem → Prop} (as : List MV) (hc : cats as ≤ 5) (h : RunB d Y_M_thicksOf 0 (argL as 5) [] u Q) : OKm d g_M_thicksOf as u Q := OKm.of (Y := Y_M_thicksOf) ok_M_thicksOf hc h
theorem rb_M_thicksOf_0 {d : Nat} {L : List (Option MV)} {st : List MV} {u : Mem} {Q : Option MV → Mem → Prop} (h : go d Y_M_thicksOf Q bk_M_thicksOf_0 0 L st u) : RunB (d + 1) Y_M_thicksOf 0 L st u Q := run_go ok_M_thicksOf (by decide) h
theorem rb_M_thicksOf_1 {d : Nat} {L : List (Option MV)} {st : List MV} {u : Mem} {Q : Option MV → Mem → Prop} (h : go d Y_M_thicksOf Q bk_M_thicksOf_1 1 L st u) : RunB (d + 1) Y_M_thicksOf 1 L st u Q := run_go ok_M_thicksOf (by decide) h
theorem rb_M_thicksOf_2 {d : Nat} {L : List (Option MV)} {st : List MV} {u : Mem} {Q : Option MV → Mem → Prop} (h : go d Y_M_thicksOf Q bk_M_thicksOf_2 2 L st u) : RunB (d + 1) Y_M_thicksOf 2 L st u Q := run_go ok_M_thicksOf (by decide) h
theorem rb_M_thicksOf_3 {d : Nat} {L : List (Option MV)} {st : List MV} {u : Mem} {Q : Option MV → Mem → Prop} (h : go d Y_M_thicksOf Q bk_M_thicksOf_3 3 L st u) : RunB (d + 1) Y_M_thicksOf 3 L st u Q := run_go ok_M_thicksOf (by decide) h
theorem rb_M_thicksOf_4 {d : Nat} {L : List (Option MV)} {st : List MV} {u : Mem} {Q : Option MV → Mem → Prop} (h : go d Y_M_thicksOf Q bk_M_thicksOf_4 4 L st u) : RunB (d + 1) Y_M_thicksOf 4 L st u Q := run_go ok_M_thicksOf (by decide) h
def bk_M_yearsOf_0 : List En := [(.aload_n 0, 1, 0, 0, [], g_0), (.getfield 28, 3, 8, 8, [760], g_0), (.iconst 5, 1, 5, 0, [], g_0), (.iload_n 1, 1, 1, 0, [], g_0), (.imul, 1, 0, 0, [], g_0), (.iaload, 1, 0, 0, [], g_0), (.istore_n 2, 1, 2, 0, [], g_0), (.iconst 0, 1, 0, 0, [], g_0), (.istore_n 3, 1, 3, 0, [], g_0), (.iconst 0, 1, 0, 0, [], g_0), (.istore 4, 2, 4, 0, [], g_0)]
def bk_M_yearsOf_1 : List En := [(.iload 4, 2, 4, 0, [], g_0), (.bipush 20, 2, 20, 0, [], g_0), (.if_icmp .ge 37, 3, 4, 0, [], g_0), (.aload_n 0, 1, 0, 0, [], g_0), (.getfield 28, 3, 8, 8, [760], g_0), (.iconst 5, 1, 5, 0, [], g_0), (.iload_n 1, 1, 1, 0, [], g_0), (.imul, 1, 0, 0, [], g_0), (.iload 4, 2, 4, 0, [], g_0), (.iastore, 1, 0, 0, [], g_0), (.iload_n 3, 1, 3, 0, [], g_0), (.aload_n 0, 1, 0, 0, [], g_0), (.invokevirtual 242, 3, 0, 8, [1105, 1107, 55, 77, 1108], g_M_isSeen), (.ifCond .eq 10, 3, 2, 0, [], g_0), (.iconst 1, 1, 1, 0, [], g_0), (.iload 4, 2, 4, 0, [], g_0), (.ishl, 1, 0, 0, [], g_0), (.goto 4, 3, 3, 0, [], g_0)]
def bk_M_yearsOf_2 : List En := [(.iconst 0, 1, 0, 0, [], g_0)]
def bk_M_yearsOf_3 : List En := [(.ior, 1, 0, 0, [], g_0), (.istore_n 3, 1, 3, 0, [], g_0), (.iinc 4 1, 3, 4, 1, [0], g_0), (.goto (-38), 3, 1, 0, [], g_0)]
def bk_M_yearsOf_4 : List En := [(.aload_n 0, 1, 0, 0, [], g_0), (.getfield 28, 3, 8, 8, [760], g_0), (.iconst 5, 1, 5, 0, [], g_0), (.iload_n 1, 1, 1, 0, [], g_0), (.imul, 1, 0, 0, [], g_0), (.iload_n 2, 1, 2, 0, [], g_0), (.iastore, 1, 0, 0, [], g_0), (.iload_n 3, 1, 3, 0, [], g_0), (.ireturn, 1, 0, 0, [], g_0)]
def cd_M_yearsOf : Cd := [(0, bk_M_yearsOf_0), (14, bk_M_yearsOf_1), (46, bk_M_yearsOf_2), (47, bk_M_yearsOf_3), (55, bk_M_yearsOf_4), (66, [])]
def Y_M_yearsOf : Mth := (g_M_yearsOf, RM, cd_M_yearsOf)
set_option maxRecDepth 20000 in
theorem ok_M_yearsOf : okM Y_M_yearsOf = true := by decide +kernel
theorem en_M_yearsOf {d : Nat} {u : Mem} {Q : Option MV → Mem → Prop} (as : List MV) (hc : cats as ≤ 5) (h : RunB d Y_M_yearsOf 0 (argL as 5) [] u Q) : OKm d g_M_yearsOf as u Q := OKm.of (Y := Y_M_yearsOf) ok_M_yearsOf hc h
theorem rb_M_yearsOf_0 {d : Nat} {L : List (Option MV)} {st : List MV} {u : Mem} {Q : Option MV → Mem → Prop} (h : go d Y_M_yearsOf Q bk_M_yearsOf_0 0 L st u) : RunB (d + 1) Y_M_yearsOf 0 L st u Q := run_go ok_M_yearsOf (by decide) h
theorem rb_M_yearsOf_1 {d : Nat} {L : List (Option MV)} {st : List MV} {u : Mem} {Q : Option MV → Mem → Prop} (h : go d Y_M_yearsOf Q bk_M_yearsOf_1 1 L st u) : RunB (d + 1) Y_M_yearsOf 1 L st u Q := run_go ok_M_yearsOf (by decide) h
theorem rb_M_yearsOf_2 {d : Nat} {L : List (Option MV)} {st : List MV} {u : Mem} {Q : Option MV → Mem → Prop} (h : go d Y_M_yearsOf Q bk_M_yearsOf_2 2 L st u) : RunB (d + 1) Y_M_yearsOf 2 L st u Q := run_go ok_M_yearsOf (by decide) h
theorem rb_M_yearsOf_3 {d : Nat} {L : List (Option MV)} {st : List MV} {u : Mem} {Q : Option MV → Mem → Prop} (h : go d Y_M_yearsOf Q bk_M_yearsOf_3 3 L st u) : RunB (d + 1) Y_M_yearsOf 3 L st u Q := run_go ok_M_yearsOf (by decide) h
theorem rb_M_yearsOf_4 {d : Nat} {L : List (Option MV)} {st : List MV} {u : Mem} {Q : Option MV → Mem → Prop} (h : go d Y_M_yearsOf Q bk_M_yearsOf_4 4 L st u) : RunB (d + 1) Y_M_yearsOf 4 L st u Q := run_go ok_M_yearsOf (by decide) h
def bk_M_wasOf_0 : List En := [(.iload_n 2, 1, 2, 0, [], g_0), (.ifCond .ne 11, 3, 1, 0, [], g_0), (.aload_n 0, 1, 0, 0, [], g_0), (.iload_n 1, 1, 1, 0, [], g_0), (.invokevirtual 249, 3, 1, 8, [1117, 1119, 57, 77, 1120], g_M_thicksOf), (.goto 8, 3, 2, 0, [], g_0)]
def bk_M_wasOf_1 : List En := [(.aload_n 0, 1, 0, 0, [], g_0), (.iload_n 1, 1, 1, 0, [], g_0), (.invokevirtual 252, 3, 1, 8, [1121, 1123, 58, 77, 1124], g_M_yearsOf)]
def bk_M_wasOf_2 : List En := [(.ireturn, 1, 0, 0, [], g_0)]
def cd_M_wasOf : Cd := [(0, bk_M_wasOf_0), (12, bk_M_wasOf_1), (17, bk_M_wasOf_2), (18, [])]
def Y_M_wasOf : Mth := (g_M_wasOf, RM, cd_M_wasOf)
set_option maxRecDepth 20000 in
theorem ok_M_wasOf : okM Y_M_wasOf = true := by decide +kernel
theorem en_M_wasOf {d : Nat} {u : Mem} {Q : Option MV → Mem → Prop} (as : List MV) (hc : cats as ≤ 3) (h : RunB d Y_M_wasOf 0 (argL as 3) [] u Q) : OKm d g_M_wasOf as u Q := OKm.of (Y := Y_M_wasOf) ok_M_wasOf hc h
theorem rb_M_wasOf_0 {d : Nat} {L : List (Option MV)} {st : List MV} {u : Mem} {Q : Option MV → Mem → Prop} (h : go d Y_M_wasOf Q bk_M_wasOf_0 0 L st u) : RunB (d + 1) Y_M_wasOf 0 L st u Q := run_go ok_M_wasOf (by decide) h
theorem rb_M_wasOf_1 {d : Nat} {L : List (Option MV)} {st : List MV} {u : Mem} {Q : Option MV → Mem → Prop} (h : go d Y_M_wasOf Q bk_M_wasOf_1 1 L st u) : RunB (d + 1) Y_M_wasOf 1 L st u Q := run_go ok_M_wasOf (by decide) h
theorem rb_M_wasOf_2 {d : Nat} {L : List (Option MV)} {st : List MV} {u : Mem} {Q : Option MV → Mem → Prop} (h : go d Y_M_wasOf Q bk_M_wasOf_2 2 L st u) : RunB (d + 1) Y_M_wasOf 2 L st u Q := run_go ok_M_wasOf (by decide) h
def bk_M_was_0 : List En := [(.aload_n 0, 1, 0, 0, [], g_0), (.invokevirtual 200, 3, 0, 8, [975, 977, 36, 77, 978], g_M_find), (.aload_n 0, 1, 0, 0, [], g_0), (.iload_n 1, 1, 1, 0, [], g_0), (.invokevirtual 142, 3, 1, 8, [933, 935, 34, 77, 936], g_M_isPoster), (.ifCond .eq 19, 3, 1, 0, [], g_0), (.iload_n 2, 1, 2, 0, [], g_0), (.invokestatic 206, 3, 1, 1, [1025, 1026, 0, 77, 1027], g_M_isTwo), (.ifCond .eq 12, 3, 1, 0, [], g_0), (.aload_n 0, 1, 0, 0, [], g_0), (.iload_n 1, 1, 1, 0, [], g_0), (.iload_n 2, 1, 2, 0, [], g_0), (.invokevirtual 255, 3, 2, 8, [1113, 1115, 56, 77, 1116], g_M_wasOf), (.goto 5, 3, 2, 0, [], g_0)]
def bk_M_was_1 : List En := [(.bipush (-2), 2, 2, 1, [], g_0)]
def bk_M_was_2 : List En := [(.ireturn, 1, 0, 0, [], g_0)]
def cd_M_was : Cd := [(0, bk_M_was_0), (28, bk_M_was_1), (30, bk_M_was_2), (31, [])]
def Y_M_was : Mth := (g_M_was, RM, cd_M_was)
set_option maxRecDepth 20000 in
theorem ok_M_was : okM Y_M_was = true := by decide +kernel
theorem en_M_was {d : Nat} {u : Mem} {Q : Option MV → Mem → Prop} (as : List MV) (hc : cats as ≤ 3) (h : RunB d Y_M_was 0 (argL as 3) [] u Q) : OKm d g_M_was as u Q := OKm.of (Y := Y_M_was) ok_M_was hc h
theorem rb_M_was_0 {d : Nat} {L : List (Option MV)} {st : List MV} {u : Mem} {Q : Option MV → Mem → Prop} (h : go d Y_M_was Q bk_M_was_0 0 L st u) : RunB (d + 1) Y_M_was 0 L st u Q := run_go ok_M_was (by decide) h
theorem rb_M_was_1 {d : Nat} {L : List (Option MV)} {st : List MV} {u : Mem} {Q : Option MV → Mem → Prop} (h : go d Y_M_was Q bk_M_was_1 1 L st u) : RunB (d + 1) Y_M_was 1 L st u Q := run_go ok_M_was (by decide) h
theorem rb_M_was_2 {d : Nat} {L : List (Option MV)} {st : List MV} {u : Mem} {Q : Option MV → Mem → Prop} (h : go d Y_M_was Q bk_M_was_2 2 L st u) : RunB (d + 1) Y_M_was 2 L st u Q := run_go ok_M_was (by decide) h
def bk_M_askOf_0 : List En := [(.aload_n 0, 1, 0, 0, [], g_0), (.iload_n 1, 1, 1, 0, [], g_0), (.invokevirtual 252, 3, 1, 8, [1121, 1123, 58, 77, 1124], g_M_yearsOf), (.istore_n 2, 1, 2, 0, [], g_0), (.aload_n 0, 1, 0, 0, [], g_0), (.getfield 28, 3, 8, 8, [760], g_0), (.iconst 5, 1, 5, 0, [], g_0), (.iload_n 1, 1, 1, 0, [], g_0), (.imul, 1, 0, 0, [], g_0), (.iaload, 1, 0, 0, [], g_0), (.istore_n 3, 1, 3, 0, [], g_0), (.iconst 0, 1, 0, 0, [], g_0), (.istore 4, 2, 4, 0, [], g_0)]
def bk_M_askOf_1 : List En := [(.iload 4, 2, 4, 0, [], g_0), (.bipush 54, 2, 54, 0, [], g_0), (.if_icmp .ge 17, 3, 2, 0, [], g_0), (.aload_n 0, 1, 0, 0, [], g_0), (.getfield 58, 3, 8, 25, [777], g_0), (.iload 4, 2, 4, 0, [], g_0), (.iconst 0, 1, 0, 0, [], g_0), (.iastore, 1, 0, 0, [], g_0), (.iinc 4 1, 3, 4, 1, [0], g_0), (.goto (-18), 3, 1, 0, [], g_0)]
def bk_M_askOf_2 : List En := [(.iconst 0, 1, 0, 0, [], g_0), (.istore 4, 2, 4, 0, [], g_0)]
def bk_M_askOf_3 : List En := [(.iload 4, 2, 4, 0, [], g_0), (.bipush 20, 2, 20, 0, [], g_0), (.if_icmp .ge 79, 3, 6, 0, [], g_0), (.iload_n 2, 1, 2, 0, [], g_0), (.iload 4, 2, 4, 0, [], g_0), (.invokestatic 164, 3, 2, 1, [987, 988, 0, 77, 989], g_M_isIn), (.ifCond .eq 64, 3, 5, 0, [], g_0), (.aload_n 0, 1, 0, 0, [], g_0), (.getfield 28, 3, 8, 8, [760], g_0), (.iconst 5, 1, 5, 0, [], g_0), (.iload_n 1, 1, 1, 0, [], g_0), (.imul, 1, 0, 0, [], g_0), (.iload 4, 2, 4, 0, [], g_0), (.iastore, 1, 0, 0, [], g_0), (.aload_n 0, 1, 0, 0, [], g_0), (.invokevirtual 197, 3, 0, 8, [979, 981, 37, 77, 982], g_M_lives), (.iconst 0, 1, 0, 0, [], g_0), (.istore 5, 2, 5, 0, [], g_0)]
def bk_M_askOf_4 : List En := [(.iload 5, 2, 5, 0, [], g_0), (.bipush 6, 2, 6, 0, [], g_0), (.if_icmp .ge 40, 3, 5, 0, [], g_0), (.aload_n 0, 1, 0, 0, [], g_0), (.getfield 58, 3, 8, 25, [777], g_0), (.bipush 9, 2, 9, 0, [], g_0), (.iload 5, 2, 5, 0, [], g_0), (.imul, 1, 0, 0, [], g_0), (.aload_n 0, 1, 0, 0, [], g_0), (.getfield 52, 3, 8, 22, [774], g_0), (.sipush 684, 3, 684, 0, [], g_0), (.bipush 6, 2, 6, 0, [], g_0), (.iload 5, 2, 5, 0, [], g_0), (.imul, 1, 0, 0, [], g_0), (.iadd, 1, 0, 0, [], g_0), (.iaload, 1, 0, 0, [], g_0), (.iadd, 1, 0, 0, [], g_0), (.iconst 1, 1, 1, 0, [], g_0), (.iadd, 1, 0, 0, [], g_0), (.dup2, 1, 0, 0, [], g_0), (.iaload, 1, 0, 0, [], g_0), (.iconst 1, 1, 1, 0, [], g_0), (.iadd, 1, 0, 0, [], g_0), (.iastore, 1, 0, 0, [], g_0), (.iinc 5 1, 3, 5, 1, [0], g_0), (.goto (-41), 3, 4, 0, [], g_0)]
def bk_M_askOf_5 : List En := [(.iinc 4 1, 3, 4, 1, [0], g_0), (.goto (-80), 3, 3, 0, [], g_0)]
def bk_M_askOf_6 : List En := [(.aload_n 0, 1, 0, 0, [], g_0), (.getfield 28, 3, 8, 8, [760], g_0), (.iconst 5, 1, 5, 0, [], g_0), (.iload_n 1, 1, 1, 0, [], g_0), (.imul, 1, 0, 0, [], g_0), (.iload_n 3, 1, 3, 0, [], g_0), (.iastore, 1, 0, 0, [], g_0), (.iconst (-1), 1, 1, 1, [], g_0), (.istore 4, 2, 4, 0, [], g_0), (.iconst 0, 1, 0, 0, [], g_0), (.istore 5, 2, 5, 0, [], g_0), (.iconst 0, 1, 0, 0, [], g_0), (.istore 6, 2, 6, 0, [], g_0)]
def bk_M_askOf_7 : List En := [(.iload 6, 2, 6, 0, [], g_0), (.bipush 6, 2, 6, 0, [], g_0), (.if_icmp .ge 96, 3, 17, 0, [], g_0), (.iconst 0, 1, 0, 0, [], g_0), (.istore 7, 2, 7, 0, [], g_0), (.iconst 0, 1, 0, 0, [], g_0), (.istore 8, 2, 8, 0, [], g_0)]
def bk_M_askOf_8 : List En := [(.iload 8, 2, 8, 0, [], g_0), (.bipush 9, 2, 9, 0, [], g_0), (.if_icmp .ge 29, 3, 9, 0, [], g_0), (.aload_n 0, 1, 0, 0, [], g_0), (.getfield 58, 3, 8, 25, [777], g_0), (.bipush 9, 2, 9, 0, [], g_0), (.iload 6, 2, 6, 0, [], g_0), (.imul, 1, 0, 0, [], g_0), (.iload 8, 2, 8, 0, [], g_0), (.iadd, 1, 0, 0, [], g_0), (.iaload, 1, 0, 0, [], g_0), (.iload 7, 2, 7, 0, [], g_0), (.invokestatic 181, 3, 2, 1, [1010, 1011, 0, 77, 1012], g_M_greater), (.istore 7, 2, 7, 0, [], g_0), (.iinc 8 1, 3, 8, 1, [0], g_0), (.goto (-30), 3, 8, 0, [], g_0)]
def bk_M_askOf_9 : List En := [(.iload 4, 2, 4, 0, [], g_0), (.iconst (-1), 1, 1, 1, [], g_0), (.if_icmp .eq 10, 3, 10, 0, [], g_0), (.iload 7, 2, 7, 0, [], g_0), (.iload 5, 2, 5, 0, [], g_0), (.if_icmp .ge 7, 3, 11, 0, [], g_0)]
def bk_M_askOf_10 : List En := [(.iconst 1, 1, 1, 0, [], g_0), (.goto 4, 3, 12, 0, [], g_0)]
def bk_M_askOf_11 : List En := [(.iconst 0, 1, 0, 0, [], g_0)]
def bk_M_askOf_12 : List En := [(.istore 8, 2, 8, 0, [], g_0), (.iload 8, 2, 8, 0, [], g_0), (.ifCond .eq 8, 3, 13, 0, [], g_0), (.iload 6, 2, 6, 0, [], g_0), (.goto 5, 3, 14, 0, [], g_0)]
def bk_M_askOf_13 : List En := [(.iload 4, 2, 4, 0, [], g_0)]
def bk_M_askOf_14 : List En := [(.istore 4, 2, 4, 0, [], g_0), (.iload 8, 2, 8, 0, [], g_0), (.ifCond .eq 8, 3, 15, 0, [], g_0), (.iload 7, 2, 7, 0, [], g_0), (.goto 5, 3, 16, 0, [], g_0)]
def bk_M_askOf_15 : List En := [(.iload 5, 2, 5, 0, [], g_0)]
def bk_M_askOf_16 : List En := [(.istore 5, 2, 5, 0, [], g_0), (.iinc 6 1, 3, 6, 1, [0], g_0), (.goto (-97), 3, 7, 0, [], g_0)]
def bk_M_askOf_17 : List En := [(.iload 4, 2, 4, 0, [], g_0), (.ireturn, 1, 0, 0, [], g_0)]
def cd_M_askOf : Cd := [(0, bk_M_askOf_0), (18, bk_M_askOf_1), (39, bk_M_askOf_2), (42, bk_M_askOf_3), (75, bk_M_askOf_4), (119, bk_M_askOf_5), (125, bk_M_askOf_6), (143, bk_M_askOf_7), (156, bk_M_askOf_8), (189, bk_M_askOf_9), (202, bk_M_askOf_10), (206, bk_M_askOf_11), (207, bk_M_askOf_12), (219, bk_M_askOf_13), (221, bk_M_askOf_14), (233, bk_M_askOf_15), (235, bk_M_askOf_16), (243, bk_M_askOf_17), (246, [])]
def Y_M_askOf : Mth := (g_M_askOf, RM, cd_M_askOf)
set_option maxRecDepth 20000 in
theorem ok_M_askOf : okM Y_M_askOf = true := by decide +kernel
theorem en_M_askOf {d : Nat} {u : Mem} {Q : Option MV → Mem → Prop} (as : List MV) (hc : cats as ≤ 9) (h : RunB d Y_M_askOf 0 (argL as 9) [] u Q) : OKm d g_M_askOf as u Q := OKm.of (Y := Y_M_askOf) ok_M_askOf hc h
theorem rb_M_askOf_0 {d : Nat} {L : List (Option MV)} {st : List MV} {u : Mem} {Q : Option MV → Mem → Prop} (h : go d Y_M_askOf Q bk_M_askOf_0 0 L st u) : RunB (d + 1) Y_M_askOf 0 L st u Q := run_go ok_M_askOf (by decide) h
theorem rb_M_askOf_1 {d : Nat} {L : List (Option MV)} {st : List MV} {u : Mem} {Q : Option MV → Mem → Prop} (h : go d Y_M_askOf Q bk_M_askOf_1 1 L st u) : RunB (d + 1) Y_M_askOf 1 L st u Q := run_go ok_M_askOf (by decide) h
theorem rb_M_askOf_2 {d : Nat} {L : List (Option MV)} {st : List MV} {u : Mem} {Q : Option MV → Mem → Prop} (h : go d Y_M_askOf Q bk_M_askOf_2 2 L st u) : RunB (d + 1) Y_M_askOf 2 L st u Q := run_go ok_M_askOf (by decide) h
theorem rb_M_askOf_3 {d : Nat} {L : List (Option MV)} {st : List MV} {u : Mem} {Q : Option MV → Mem → Prop} (h : go d Y_M_askOf Q bk_M_askOf_3 3 L st u) : RunB (d + 1) Y_M_askOf 3 L st u Q := run_go ok_M_askOf (by decide) h
theorem rb_M_askOf_4 {d : Nat} {L : List (Option MV)} {st : List MV} {u : Mem} {Q : Option MV → Mem → Prop} (h : go d Y_M_askOf Q bk_M_askOf_4 4 L st u) : RunB (d + 1) Y_M_askOf 4 L st u Q := run_go ok_M_askOf (by decide) h
theorem rb_M_askOf_5 {d : Nat} {L : List (Option MV)} {st : List MV} {u : Mem} {Q : Option MV → Mem → Prop} (h : go d Y_M_askOf Q bk_M_askOf_5 5 L st u) : RunB (d + 1) Y_M_askOf 5 L st u Q := run_go ok_M_askOf (by decide) h
theorem rb_M_askOf_6 {d : Nat} {L : List (Option MV)} {st : List MV} {u : Mem} {Q : Option MV → Mem → Prop} (h : go d Y_M_askOf Q bk_M_askOf_6 6 L st u) : RunB (d + 1) Y_M_askOf 6 L st u Q := run_go ok_M_askOf (by decide) h
theorem rb_M_askOf_7 {d : Nat} {L : List (Option MV)} {st : List MV} {u : Mem} {Q : Option MV → Mem → Prop} (h : go d Y_M_askOf Q bk_M_askOf_7 7 L st u) : RunB (d + 1) Y_M_askOf 7 L st u Q := run_go ok_M_askOf (by decide) h
theorem rb_M_askOf_8 {d : Nat} {L : List (Option MV)} {st : List MV} {u : Mem} {Q : Option MV → Mem → Prop} (h : go d Y_M_askOf Q bk_M_askOf_8 8 L st u) : RunB (d + 1) Y_M_askOf 8 L st u Q := run_go ok_M_askOf (by decide) h
theorem rb_M_askOf_9 {d : Nat} {L : List (Option MV)} {st : List MV} {u : Mem} {Q : Option MV → Mem → Prop} (h : go d Y_M_askOf Q bk_M_askOf_9 9 L st u) : RunB (d + 1) Y_M_askOf 9 L st u Q := run_go ok_M_askOf (by decide) h
theorem rb_M_askOf_10 {d : Nat} {L : List (Option MV)} {st : List MV} {u : Mem} {Q : Option MV → Mem → Prop} (h : go d Y_M_askOf Q bk_M_askOf_10 10 L st u) : RunB (d + 1) Y_M_askOf 10 L st u Q := run_go ok_M_askOf (by decide) h
theorem rb_M_askOf_11 {d : Nat} {L : List (Option MV)} {st : List MV} {u : Mem} {Q : Option MV → Mem → Prop} (h : go d Y_M_askOf Q bk_M_askOf_11 11 L st u) : RunB (d + 1) Y_M_askOf 11 L st u Q := run_go ok_M_askOf (by decide) h
theorem rb_M_askOf_12 {d : Nat} {L : List (Option MV)} {st : List MV} {u : Mem} {Q : Option MV → Mem → Prop} (h : go d Y_M_askOf Q bk_M_askOf_12 12 L st u) : RunB (d + 1) Y_M_askOf 12 L st u Q := run_go ok_M_askOf (by decide) h
theorem rb_M_askOf_13 {d : Nat} {L : List (Option MV)} {st : List MV} {u : Mem} {Q : Option MV → Mem → Prop} (h : go d Y_M_askOf Q bk_M_askOf_13 13 L st u) : RunB (d + 1) Y_M_askOf 13 L st u Q := run_go ok_M_askOf (by decide) h
theorem rb_M_askOf_14 {d : Nat} {L : List (Option MV)} {st : List MV} {u : Mem} {Q : Option MV → Mem → Prop} (h : go d Y_M_askOf Q bk_M_askOf_14 14 L st u) : RunB (d + 1) Y_M_askOf 14 L st u Q := run_go ok_M_askOf (by decide) h
theorem rb_M_askOf_15 {d : Nat} {L : List (Option MV)} {st : List MV} {u : Mem} {Q : Option MV → Mem → Prop} (h : go d Y_M_askOf Q bk_M_askOf_15 15 L st u) : RunB (d + 1) Y_M_askOf 15 L st u Q := run_go ok_M_askOf (by decide) h
theorem rb_M_askOf_16 {d : Nat} {L : List (Option MV)} {st : List MV} {u : Mem} {Q : Option MV → Mem → Prop} (h : go d Y_M_askOf Q bk_M_askOf_16 16 L st u) : RunB (d + 1) Y_M_askOf 16 L st u Q := run_go ok_M_askOf (by decide) h
theorem rb_M_askOf_17 {d : Nat} {L : List (Option MV)} {st : List MV} {u : Mem} {Q : Option MV → Mem → Prop} (h : go d Y_M_askOf Q bk_M_askOf_17 17 L st u) : RunB (d + 1) Y_M_askOf 17 L st u Q := run_go ok_M_askOf (by decide) h
def bk_M_ask_0 : List En := [(.aload_n 0, 1, 0, 0, [], g_0), (.invokevirtual 200, 3, 0, 8, [975, 977, 36, 77, 978], g_M_find), (.aload_n 0, 1, 0, 0, [], g_0), (.iload_n 1, 1, 1, 0, [], g_0), (.invokevirtual 142, 3, 1, 8, [933, 935, 34, 77, 936], g_M_isPoster), (.ifCond .eq 11, 3, 1, 0, [], g_0), (.aload_n 0, 1, 0, 0, [], g_0), (.iload_n 1, 1, 1, 0, [], g_0), (.invokevirtual 258, 3, 1, 8, [1129, 1131, 59, 77, 1132], g_M_askOf), (.goto 5, 3, 2, 0, [], g_0)]
def bk_M_ask_1 : List En := [(.bipush (-2), 2, 2, 1, [], g_0)]
def bk_M_ask_2 : List En := [(.ireturn, 1, 0, 0, [], g_0)]
def cd_M_ask : Cd := [(0, bk_M_ask_0), (20, bk_M_ask_1), (22, bk_M_ask_2), (23, [])]
def Y_M_ask : Mth := (g_M_ask, RM, cd_M_ask)
set_option maxRecDepth 20000 in
theorem ok_M_ask : okM Y_M_ask = true := by decide +kernel
theorem en_M_ask {d : Nat} {u : Mem} {Q : Option MV → Mem → Prop} (as : List MV) (hc : cats as ≤ 2) (h : RunB d Y_M_ask 0 (argL as 2) [] u Q) : OKm d g_M_ask as u Q := OKm.of (Y := Y_M_ask) ok_M_ask hc h
theorem rb_M_ask_0 {d : Nat} {L : List (Option MV)} {st : List MV} {u : Mem} {Q : Option MV → Mem → Prop} (h : go d Y_M_ask Q bk_M_ask_0 0 L st u) : RunB (d + 1) Y_M_ask 0 L st u Q := run_go ok_M_ask (by decide) h
theorem rb_M_ask_1 {d : Nat} {L : List (Option MV)} {st : List MV} {u : Mem} {Q : Option MV → Mem → Prop} (h : go d Y_M_ask Q bk_M_ask_1 1 L st u) : RunB (d + 1) Y_M_ask 1 L st u Q := run_go ok_M_ask (by decide) h
theorem rb_M_ask_2 {d : Nat} {L : List (Option MV)} {st : List MV} {u : Mem} {Q : Option MV → Mem → Prop} (h : go d Y_M_ask Q bk_M_ask_2 2 L st u) : RunB (d + 1) Y_M_ask 2 L st u Q := run_go ok_M_ask (by decide) h
def bk_M_showerOf_0 : List En := [(.lconst 0, 1, 0, 0, [], g_0), (.lstore 5, 2, 5, 0, [], g_0), (.iconst 0, 1, 0, 0, [], g_0), (.istore 7, 2, 7, 0, [], g_0)]
def bk_M_showerOf_1 : List En := [(.iload 7, 2, 7, 0, [], g_0), (.bipush 20, 2, 20, 0, [], g_0), (.if_icmp .ge 23, 3, 2, 0, [], g_0), (.aload_n 0, 1, 0, 0, [], g_0), (.getfield 61, 3, 8, 26, [778], g_0), (.iload 7, 2, 7, 0, [], g_0), (.aload_n 0, 1, 0, 0, [], g_0), (.getfield 34, 3, 8, 11, [763], g_0), (.iload 7, 2, 7, 0, [], g_0), (.iaload, 1, 0, 0, [], g_0), (.iastore, 1, 0, 0, [], g_0), (.iinc 7 1, 3, 7, 1, [0], g_0), (.goto (-24), 3, 1, 0, [], g_0)]
def bk_M_showerOf_2 : List En := [(.iconst 0, 1, 0, 0, [], g_0), (.istore 7, 2, 7, 0, [], g_0)]
def bk_M_showerOf_3 : List En := [(.iload 7, 2, 7, 0, [], g_0), (.iconst 2, 1, 2, 0, [], g_0), (.iload_n 2, 1, 2, 0, [], g_0), (.ishl, 1, 0, 0, [], g_0), (.if_icmp .ge 114, 3, 12, 0, [], g_0), (.lconst 1, 1, 1, 0, [], g_0), (.lstore 8, 2, 8, 0, [], g_0), (.iconst 0, 1, 0, 0, [], g_0), (.istore 10, 2, 10, 0, [], g_0)]
def bk_M_showerOf_4 : List En := [(.iload 10, 2, 10, 0, [], g_0), (.iload_n 2, 1, 2, 0, [], g_0), (.if_icmp .gt 62, 3, 9, 0, [], g_0), (.aload_n 0, 1, 0, 0, [], g_0), (.getfield 34, 3, 8, 11, [763], g_0), (.iload 10, 2, 10, 0, [], g_0), (.iload 7, 2, 7, 0, [], g_0), (.iload 10, 2, 10, 0, [], g_0), (.invokestatic 164, 3, 2, 1, [987, 988, 0, 77, 989], g_M_isIn), (.ifCond .eq 13, 3, 5, 0, [], g_0), (.aload_n 0, 1, 0, 0, [], g_0), (.getfield 61, 3, 8, 26, [778], g_0), (.iload 10, 2, 10, 0, [], g_0), (.iaload, 1, 0, 0, [], g_0), (.goto 4, 3, 6, 0, [], g_0)]
def bk_M_showerOf_5 : List En := [(.iconst 0, 1, 0, 0, [], g_0)]
def bk_M_showerOf_6 : List En := [(.iastore, 1, 0, 0, [], g_0), (.lload 8, 2, 8, 0, [], g_0), (.iload 7, 2, 7, 0, [], g_0), (.iload 10, 2, 10, 0, [], g_0), (.invokestatic 164, 3, 2, 1, [987, 988, 0, 77, 989], g_M_isIn), (.ifCond .eq 8, 3, 7, 0, [], g_0), (.iload_n 1, 1, 1, 0, [], g_0), (.i2l, 1, 0, 0, [], g_0), (.goto 8, 3, 8, 0, [], g_0)]
def bk_M_showerOf_7 : List En := [(.bipush 16, 2, 16, 0, [], g_0), (.iload_n 1, 1, 1, 0, [], g_0), (.isub, 1, 0, 0, [], g_0), (.i2l, 1, 0, 0, [], g_0)]
def bk_M_showerOf_8 : List En := [(.lmul, 1, 0, 0, [], g_0), (.lstore 8, 2, 8, 0, [], g_0), (.iinc 10 1, 3, 10, 1, [0], g_0), (.goto (-62), 3, 4, 0, [], g_0)]
def bk_M_showerOf_9 : List En := [(.aload_n 0, 1, 0, 0, [], g_0), (.invokevirtual 197, 3, 0, 8, [979, 981, 37, 77, 982], g_M_lives), (.aload_n 0, 1, 0, 0, [], g_0), (.iconst 1, 1, 1, 0, [], g_0), (.invokevirtual 209, 3, 1, 8, [1028, 1030, 45, 77, 1031], g_M_daysBy), (.istore 10, 2, 10, 0, [], g_0), (.lload 5, 2, 5, 0, [], g_0), (.iload 10, 2, 10, 0, [], g_0), (.iconst (-1), 1, 1, 1, [], g_0), (.if_icmp .eq 14, 3, 10, 0, [], g_0), (.iload 10, 2, 10, 0, [], g_0), (.iload_n 3, 1, 3, 0, [], g_0), (.if_icmp .gt 8, 3, 10, 0, [], g_0), (.lload 8, 2, 8, 0, [], g_0), (.goto 4, 3, 11, 0, [], g_0)]
def bk_M_showerOf_10 : List En := [(.lconst 0, 1, 0, 0, [], g_0)]
def bk_M_showerOf_11 : List En := [(.ladd, 1, 0, 0, [], g_0), (.lstore 5, 2, 5, 0, [], g_0), (.iinc 7 1, 3, 7, 1, [0], g_0), (.goto (-116), 3, 3, 0, [], g_0)]
def bk_M_showerOf_12 : List En := [(.iconst 0, 1, 0, 0, [], g_0), (.istore 7, 2, 7, 0, [], g_0)]
def bk_M_showerOf_13 : List En := [(.iload 7, 2, 7, 0, [], g_0), (.bipush 20, 2, 20, 0, [], g_0), (.if_icmp .ge 23, 3, 14, 0, [], g_0), (.aload_n 0, 1, 0, 0, [], g_0), (.getfield 34, 3, 8, 11, [763], g_0), (.iload 7, 2, 7, 0, [], g_0), (.aload_n 0, 1, 0, 0, [], g_0), (.getfield 61, 3, 8, 26, [778], g_0), (.iload 7, 2, 7, 0, [], g_0), (.iaload, 1, 0, 0, [], g_0), (.iastore, 1, 0, 0, [], g_0), (.iinc 7 1, 3, 7, 1, [0], g_0), (.goto (-24), 3, 13, 0, [], g_0)]
def bk_M_showerOf_14 : List En := [(.lload 5, 2, 5, 0, [], g_0), (.lconst 1, 1, 1, 0, [], g_0), (.iconst 4, 1, 4, 0, [], g_0), (.iload_n 2, 1, 2, 0, [], g_0), (.iconst 1, 1, 1, 0, [], g_0), (.iadd, 1, 0, 0, [], g_0), (.imul, 1, 0, 0, [], g_0), (.lshl, 1, 0, 0, [], g_0), (.iload 4, 2, 4, 0, [], g_0), (.invokestatic 261, 3, 3, 1, [1143, 1144, 0, 77, 1145], g_M_part), (.lreturn, 1, 0, 0, [], g_0)]
def cd_M_showerOf : Cd := [(0, bk_M_showerOf_0), (6, bk_M_showerOf_1), (33, bk_M_showerOf_2), (36, bk_M_showerOf_3), (50, bk_M_showerOf_4), (82, bk_M_showerOf_5), (83, bk_M_showerOf_6), (101, bk_M_showerOf_7), (106, bk_M_showerOf_8), (115, bk_M_showerOf_9), (145, bk_M_showerOf_10), (146, bk_M_showerOf_11), (155, bk_M_showerOf_12), (158, bk_M_showerOf_13), (185, bk_M_showerOf_14), (200, [])]
def Y_M_showerOf : Mth := (g_M_showerOf, RM, cd_M_showerOf)
set_option maxRecDepth 20000 in
theorem ok_M_showerOf : okM Y_M_showerOf = true := by decide +kernel
theorem en_M_showerOf {d : Nat} {u : Mem} {Q : Option MV → Mem → Prop} (as : List MV) (hc : cats as ≤ 11) (h : RunB d Y_M_showerOf 0 (argL as 11) [] u Q) : OKm d g_M_showerOf as u Q := OKm.of (Y := Y_M_showerOf) ok_M_showerOf hc h
theorem rb_M_showerOf_0 {d : Nat} {L : List (Option MV)} {st : List MV} {u : Mem} {Q : Option MV → Mem → Prop} (h : go d Y_M_showerOf Q bk_M_showerOf_0 0 L st u) : RunB (d + 1) Y_M_showerOf 0 L st u Q := run_go ok_M_showerOf (by decide) h
theorem rb_M_showerOf_1 {d : Nat} {L : List (Option MV)} {st : List MV} {u : Mem} {Q : Option MV → Mem → Prop} (h : go d Y_M_showerOf Q bk_M_showerOf_1 1 L st u) : RunB (d + 1) Y_M_showerOf 1 L st u Q := run_go ok_M_showerOf (by decide) h
theorem rb_M_showerOf_2 {d : Nat} {L : List (Option MV)} {st : List MV} {u : Mem} {Q : Option MV → Mem → Prop} (h : go d Y_M_showerOf Q bk_M_showerOf_2 2 L st u) : RunB (d + 1) Y_M_showerOf 2 L st u Q := run_go ok_M_showerOf (by decide) h
theorem rb_M_showerOf_3 {d : Nat} {L : List (Option MV)} {st : List MV} {u : Mem} {Q : Option MV → Mem → Prop} (h : go d Y_M_showerOf Q bk_M_showerOf_3 3 L st u) : RunB (d + 1) Y_M_showerOf 3 L st u Q := run_go ok_M_showerOf (by decide) h
theorem rb_M_showerOf_4 {d : Nat} {L : List (Option MV)} {st : List MV} {u : Mem} {Q : Option MV → Mem → Prop} (h : go d Y_M_showerOf Q bk_M_showerOf_4 4 L st u) : RunB (d + 1) Y_M_showerOf 4 L st u Q := run_go ok_M_showerOf (by decide) h
theorem rb_M_showerOf_5 {d : Nat} {L : List (Option MV)} {st : List MV} {u : Mem} {Q : Option MV → Mem → Prop} (h : go d Y_M_showerOf Q bk_M_showerOf_5 5 L st u) : RunB (d + 1) Y_M_showerOf 5 L st u Q := run_go ok_M_showerOf (by decide) h
theorem rb_M_showerOf_6 {d : Nat} {L : List (Option MV)} {st : List MV} {u : Mem} {Q : Option MV → Mem → Prop} (h : go d Y_M_showerOf Q bk_M_showerOf_6 6 L st u) : RunB (d + 1) Y_M_showerOf 6 L st u Q := run_go ok_M_showerOf (by decide) h
theorem rb_M_showerOf_7 {d : Nat} {L : List (Option MV)} {st : List MV} {u : Mem} {Q : Option MV → Mem → Prop} (h : go d Y_M_showerOf Q bk_M_showerOf_7 7 L st u) : RunB (d + 1) Y_M_showerOf 7 L st u Q := run_go ok_M_showerOf (by decide) h
theorem rb_M_showerOf_8 {d : Nat} {L : List (Option MV)} {st : List MV} {u : Mem} {Q : Option MV → Mem → Prop} (h : go d Y_M_showerOf Q bk_M_showerOf_8 8 L st u) : RunB (d + 1) Y_M_showerOf 8 L st u Q := run_go ok_M_showerOf (by decide) h
theorem rb_M_showerOf_9 {d : Nat} {L : List (Option MV)} {st : List MV} {u : Mem} {Q : Option MV → Mem → Prop} (h : go d Y_M_showerOf Q bk_M_showerOf_9 9 L st u) : RunB (d + 1) Y_M_showerOf 9 L st u Q := run_go ok_M_showerOf (by decide) h
theorem rb_M_showerOf_10 {d : Nat} {L : List (Option MV)} {st : List MV} {u : Mem} {Q : Option MV → Mem → Prop} (h : go d Y_M_showerOf Q bk_M_showerOf_10 10 L st u) : RunB (d + 1) Y_M_showerOf 10 L st u Q := run_go ok_M_showerOf (by decide) h
theorem rb_M_showerOf_11 {d : Nat} {L : List (Option MV)} {st : List MV} {u : Mem} {Q : Option MV → Mem → Prop} (h : go d Y_M_showerOf Q bk_M_showerOf_11 11 L st u) : RunB (d + 1) Y_M_showerOf 11 L st u Q := run_go ok_M_showerOf (by decide) h
theorem rb_M_showerOf_12 {d : Nat} {L : List (Option MV)} {st : List MV} {u : Mem} {Q : Option MV → Mem → Prop} (h : go d Y_M_showerOf Q bk_M_showerOf_12 12 L st u) : RunB (d + 1) Y_M_showerOf 12 L st u Q := run_go ok_M_showerOf (by decide) h
theorem rb_M_showerOf_13 {d : Nat} {L : List (Option MV)} {st : List MV} {u : Mem} {Q : Option MV → Mem → Prop} (h : go d Y_M_showerOf Q bk_M_showerOf_13 13 L st u) : RunB (d + 1) Y_M_showerOf 13 L st u Q := run_go ok_M_showerOf (by decide) h
theorem rb_M_showerOf_14 {d : Nat} {L : List (Option MV)} {st : List MV} {u : Mem} {Q : Option MV → Mem → Prop} (h : go d Y_M_showerOf Q bk_M_showerOf_14 14 L st u) : RunB (d + 1) Y_M_showerOf 14 L st u Q := run_go ok_M_showerOf (by decide) h
def bk_M_shower_0 : List En := [(.aload_n 0, 1, 0, 0, [], g_0), (.invokevirtual 200, 3, 0, 8, [975, 977, 36, 77, 978], g_M_find), (.iload_n 1, 1, 1, 0, [], g_0), (.i2l, 1, 0, 0, [], g_0), (.lconst 0, 1, 0, 0, [], g_0), (.ldc2_w 265, 3, 16, 0, [1137], g_0), (.invokestatic 70, 3, 3, 1, [845, 846, 0, 77, 847], g_M_in), (.ifCond .eq 42, 3, 1, 0, [], g_0), (.iload_n 2, 1, 2, 0, [], g_0), (.i2l, 1, 0, 0, [], g_0), (.lconst 0, 1, 0, 0, [], g_0), (.ldc2_w 267, 3, 9, 0, [1138], g_0), (.invokestatic 70, 3, 3, 1, [845, 846, 0, 77, 847], g_M_in), (.ifCond .eq 30, 3, 1, 0, [], g_0), (.iload_n 3, 1, 3, 0, [], g_0), (.invokestatic 150, 3, 1, 1, [946, 947, 0, 77, 948], g_M_isDay), (.ifCond .eq 23, 3, 1, 0, [], g_0), (.iload 4, 2, 4, 0, [], g_0), (.invokestatic 206, 3, 1, 1, [1025, 1026, 0, 77, 1027], g_M_isTwo), (.ifCond .eq 15, 3, 1, 0, [], g_0), (.aload_n 0, 1, 0, 0, [], g_0), (.iload_n 1, 1, 1, 0, [], g_0), (.iload_n 2, 1, 2, 0, [], g_0), (.iload_n 3, 1, 3, 0, [], g_0), (.iload 4, 2, 4, 0, [], g_0), (.invokevirtual 269, 3, 4, 8, [1139, 1141, 60, 77, 1142], g_M_showerOf), (.goto 8, 3, 2, 0, [], g_0)]
def bk_M_shower_1 : List En := [(.bipush (-2), 2, 2, 1, [], g_0), (.invokestatic 273, 3, 1, 1, [1146, 1147, 0, 77, 1148], g_M_no)]
def bk_M_shower_2 : List En := [(.lreturn, 1, 0, 0, [], g_0)]
def cd_M_shower : Cd := [(0, bk_M_shower_0), (55, bk_M_shower_1), (60, bk_M_shower_2), (61, [])]
def Y_M_shower : Mth := (g_M_shower, RM, cd_M_shower)
set_option maxRecDepth 20000 in
theorem ok_M_shower : okM Y_M_shower = true := by decide +kernel
theorem en_M_shower {d : Nat} {u : Mem} {Q : Option MV → Mem → Prop} (as : List MV) (hc : cats as ≤ 5) (h : RunB d Y_M_shower 0 (argL as 5) [] u Q) : OKm d g_M_shower as u Q := OKm.of (Y := Y_M_shower) ok_M_shower hc h
theorem rb_M_shower_0 {d : Nat} {L : List (Option MV)} {st : List MV} {u : Mem} {Q : Option MV → Mem → Prop} (h : go d Y_M_shower Q bk_M_shower_0 0 L st u) : RunB (d + 1) Y_M_shower 0 L st u Q := run_go ok_M_shower (by decide) h
theorem rb_M_shower_1 {d : Nat} {L : List (Option MV)} {st : List MV} {u : Mem} {Q : Option MV → Mem → Prop} (h : go d Y_M_shower Q bk_M_shower_1 1 L st u) : RunB (d + 1) Y_M_shower 1 L st u Q := run_go ok_M_shower (by decide) h
theorem rb_M_shower_2 {d : Nat} {L : List (Option MV)} {st : List MV} {u : Mem} {Q : Option MV → Mem → Prop} (h : go d Y_M_shower Q bk_M_shower_2 2 L st u) : RunB (d + 1) Y_M_shower 2 L st u Q := run_go ok_M_shower (by decide) h
def bk_M_lot_0 : List En := [(.aload_n 0, 1, 0, 0, [], g_0), (.ldc_w 277, 3, 1103515245, 0, [1163], g_0), (.aload_n 0, 1, 0, 0, [], g_0), (.getfield 278, 3, 8, 27, [779], g_0), (.imul, 1, 0, 0, [], g_0), (.sipush 12345, 3, 12345, 0, [], g_0), (.iadd, 1, 0, 0, [], g_0), (.putfield 278, 3, 8, 27, [779], g_0), (.aload_n 0, 1, 0, 0, [], g_0), (.getfield 278, 3, 8, 27, [779], g_0), (.bipush 16, 2, 16, 0, [], g_0), (.iushr, 1, 0, 0, [], g_0), (.iload_n 1, 1, 1, 0, [], g_0), (.irem, 1, 0, 0, [], g_0), (.ireturn, 1, 0, 0, [], g_0)]
def cd_M_lot : Cd := [(0, bk_M_lot_0), (26, [])]
def Y_M_lot : Mth := (g_M_lot, RM, cd_M_lot)
set_option maxRecDepth 20000 in
theorem ok_M_lot : okM Y_M_lot = true := by decide +kernel
theorem en_M_lot {d : Nat} {u : Mem} {Q : Option MV → Mem → Prop} (as : List MV) (hc : cats as ≤ 2) (h : RunB d Y_M_lot 0 (argL as 2) [] u Q) : OKm d g_M_lot as u Q := OKm.of (Y := Y_M_lot) ok_M_lot hc h
theorem rb_M_lot_0 {d : Nat} {L : List (Option MV)} {st : List MV} {u : Mem} {Q : Option MV → Mem → Prop} (h : go d Y_M_lot Q bk_M_lot_0 0 L st u) : RunB (d + 1) Y_M_lot 0 L st u Q := run_go ok_M_lot (by decide) h
def bk_M_seasonOf_0 : List En := [(.aload_n 0, 1, 0, 0, [], g_0), (.iload_n 1, 1, 1, 0, [], g_0), (.putfield 278, 3, 8, 27, [779], g_0), (.iconst 0, 1, 0, 0, [], g_0), (.istore 4, 2, 4, 0, [], g_0)]
def bk_M_seasonOf_1 : List En := [(.iload 4, 2, 4, 0, [], g_0), (.bipush 20, 2, 20, 0, [], g_0), (.if_icmp .ge 32, 3, 4, 0, [], g_0), (.aload_n 0, 1, 0, 0, [], g_0), (.getfield 34, 3, 8, 11, [763], g_0), (.iload 4, 2, 4, 0, [], g_0), (.iload 4, 2, 4, 0, [], g_0), (.iload_n 2, 1, 2, 0, [], g_0), (.if_icmp .ge 12, 3, 2, 0, [], g_0), (.aload_n 0, 1, 0, 0, [], g_0), (.bipush 10, 2, 10, 0, [], g_0), (.invokevirtual 281, 3, 1, 8, [1159, 1161, 62, 77, 1162], g_M_lot), (.goto 4, 3, 3, 0, [], g_0)]
def bk_M_seasonOf_2 : List En := [(.iconst 0, 1, 0, 0, [], g_0)]
def bk_M_seasonOf_3 : List En := [(.iastore, 1, 0, 0, [], g_0), (.iinc 4 1, 3, 4, 1, [0], g_0), (.goto (-33), 3, 1, 0, [], g_0)]
def bk_M_seasonOf_4 : List En := [(.aload_n 0, 1, 0, 0, [], g_0), (.invokevirtual 197, 3, 0, 8, [979, 981, 37, 77, 982], g_M_lives), (.aload_n 0, 1, 0, 0, [], g_0), (.invokevirtual 129, 3, 0, 8, [913, 915, 30, 77, 916], g_M_readsRains), (.pop, 1, 0, 0, [], g_0), (.iload_n 3, 1, 3, 0, [], g_0), (.ifCond .ne 11, 3, 5, 0, [], g_0), (.aload_n 0, 1, 0, 0, [], g_0), (.iconst 0, 1, 0, 0, [], g_0), (.invokevirtual 209, 3, 1, 8, [1028, 1030, 45, 77, 1031], g_M_daysBy), (.goto 10, 3, 6, 0, [], g_0)]
def bk_M_seasonOf_5 : List En := [(.aload_n 0, 1, 0, 0, [], g_0), (.invokevirtual 215, 3, 0, 8, [1036, 1038, 46, 77, 1039], g_M_unreadNow), (.invokestatic 284, 3, 1, 1, [1164, 1165, 0, 77, 1166], g_M_ones)]
def bk_M_seasonOf_6 : List En := [(.ireturn, 1, 0, 0, [], g_0)]
def cd_M_seasonOf : Cd := [(0, bk_M_seasonOf_0), (8, bk_M_seasonOf_1), (36, bk_M_seasonOf_2), (37, bk_M_seasonOf_3), (44, bk_M_seasonOf_4), (65, bk_M_seasonOf_5), (72, bk_M_seasonOf_6), (73, [])]
def Y_M_seasonOf : Mth := (g_M_seasonOf, RM, cd_M_seasonOf)
set_option maxRecDepth 20000 in
theorem ok_M_seasonOf : okM Y_M_seasonOf = true := by decide +kernel
theorem en_M_seasonOf {d : Nat} {u : Mem} {Q : Option MV → Mem → Prop} (as : List MV) (hc : cats as ≤ 5) (h : RunB d Y_M_seasonOf 0 (argL as 5) [] u Q) : OKm d g_M_seasonOf as u Q := OKm.of (Y := Y_M_seasonOf) ok_M_seasonOf hc h
theorem rb_M_seasonOf_0 {d : Nat} {L : List (Option MV)} {st : List MV} {u : Mem} {Q : Option MV → Mem → Prop} (h : go d Y_M_seasonOf Q bk_M_seasonOf_0 0 L st u) : RunB (d + 1) Y_M_seasonOf 0 L st u Q := run_go ok_M_seasonOf (by decide) h
theorem rb_M_seasonOf_1 {d : Nat} {L : List (Option MV)} {st : List MV} {u : Mem} {Q : Option MV → Mem → Prop} (h : go d Y_M_seasonOf Q bk_M_seasonOf_1 1 L st u) : RunB (d + 1) Y_M_seasonOf 1 L st u Q := run_go ok_M_seasonOf (by decide) h
theorem rb_M_seasonOf_2 {d : Nat} {L : List (Option MV)} {st : List MV} {u : Mem} {Q : Option MV → Mem → Prop} (h : go d Y_M_seasonOf Q bk_M_seasonOf_2 2 L st u) : RunB (d + 1) Y_M_seasonOf 2 L st u Q := run_go ok_M_seasonOf (by decide) h
theorem rb_M_seasonOf_3 {d : Nat} {L : List (Option MV)} {st : List MV} {u : Mem} {Q : Option MV → Mem → Prop} (h : go d Y_M_seasonOf Q bk_M_seasonOf_3 3 L st u) : RunB (d + 1) Y_M_seasonOf 3 L st u Q := run_go ok_M_seasonOf (by decide) h
theorem rb_M_seasonOf_4 {d : Nat} {L : List (Option MV)} {st : List MV} {u : Mem} {Q : Option MV → Mem → Prop} (h : go d Y_M_seasonOf Q bk_M_seasonOf_4 4 L st u) : RunB (d + 1) Y_M_seasonOf 4 L st u Q := run_go ok_M_seasonOf (by decide) h
theorem rb_M_seasonOf_5 {d : Nat} {L : List (Option MV)} {st : List MV} {u : Mem} {Q : Option MV → Mem → Prop} (h : go d Y_M_seasonOf Q bk_M_seasonOf_5 5 L st u) : RunB (d + 1) Y_M_seasonOf 5 L st u Q := run_go ok_M_seasonOf (by decide) h
theorem rb_M_seasonOf_6 {d : Nat} {L : List (Option MV)} {st : List MV} {u : Mem} {Q : Option MV → Mem → Prop} (h : go d Y_M_seasonOf Q bk_M_seasonOf_6 6 L st u) : RunB (d + 1) Y_M_seasonOf 6 L st u Q := run_go ok_M_seasonOf (by decide) h
def bk_M_season_0 : List En := [(.aload_n 0, 1, 0, 0, [], g_0), (.invokevirtual 200, 3, 0, 8, [975, 977, 36, 77, 978], g_M_find), (.iload_n 2, 1, 2, 0, [], g_0), (.i2l, 1, 0, 0, [], g_0), (.lconst 0, 1, 0, 0, [], g_0), (.ldc2_w 287, 3, 20, 0, [1154], g_0), (.invokestatic 70, 3, 3, 1, [845, 846, 0, 77, 847], g_M_in), (.ifCond .eq 20, 3, 1, 0, [], g_0), (.iload_n 3, 1, 3, 0, [], g_0), (.invokestatic 206, 3, 1, 1, [1025, 1026, 0, 77, 1027], g_M_isTwo), (.ifCond .eq 13, 3, 1, 0, [], g_0), (.aload_n 0, 1, 0, 0, [], g_0), (.iload_n 1, 1, 1, 0, [], g_0), (.iload_n 2, 1, 2, 0, [], g_0), (.iload_n 3, 1, 3, 0, [], g_0), (.invokevirtual 289, 3, 3, 8, [1155, 1157, 61, 77, 1158], g_M_seasonOf), (.goto 5, 3, 2, 0, [], g_0)]
def bk_M_season_1 : List En := [(.bipush (-2), 2, 2, 1, [], g_0)]
def bk_M_season_2 : List En := [(.ireturn, 1, 0, 0, [], g_0)]
def cd_M_season : Cd := [(0, bk_M_season_0), (33, bk_M_season_1), (35, bk_M_season_2), (36, [])]
def Y_M_season : Mth := (g_M_season, RM, cd_M_season)
set_option maxRecDepth 20000 in
theorem ok_M_season : okM Y_M_season = true := by decide +kernel
theorem en_M_season {d : Nat} {u : Mem} {Q : Option MV → Mem → Prop} (as : List MV) (hc : cats as ≤ 4) (h : RunB d Y_M_season 0 (argL as 4) [] u Q) : OKm d g_M_season as u Q := OKm.of (Y := Y_M_season) ok_M_season hc h
theorem rb_M_season_0 {d : Nat} {L : List (Option MV)} {st : List MV} {u : Mem} {Q : Option MV → Mem → Prop} (h : go d Y_M_season Q bk_M_season_0 0 L st u) : RunB (d + 1) Y_M_season 0 L st u Q := run_go ok_M_season (by decide) h
theorem rb_M_season_1 {d : Nat} {L : List (Option MV)} {st : List MV} {u : Mem} {Q : Option MV → Mem → Prop} (h : go d Y_M_season Q bk_M_season_1 1 L st u) : RunB (d + 1) Y_M_season 1 L st u Q := run_go ok_M_season (by decide) h
theorem rb_M_season_2 {d : Nat} {L : List (Option MV)} {st : List MV} {u : Mem} {Q : Option MV → Mem → Prop} (h : go d Y_M_season Q bk_M_season_2 2 L st u) : RunB (d + 1) Y_M_season 2 L st u Q := run_go ok_M_season (by decide) h
def bk_M_write_0 : List En := [(.iload_n 1, 1, 1, 0, [], g_0), (.invokestatic 150, 3, 1, 1, [946, 947, 0, 77, 948], g_M_isDay), (.ifCond .eq 10, 3, 1, 0, [], g_0), (.iload_n 2, 1, 2, 0, [], g_0), (.invokestatic 79, 3, 1, 1, [841, 842, 0, 77, 843], g_M_isSheet), (.ifCond .ne 6, 3, 2, 0, [], g_0)]
def bk_M_write_1 : List En := [(.bipush (-2), 2, 2, 1, [], g_0), (.ireturn, 1, 0, 0, [], g_0)]
def bk_M_write_2 : List En := [(.aload_n 0, 1, 0, 0, [], g_0), (.getfield 7, 3, 8, 0, [752], g_0), (.iload_n 2, 1, 2, 0, [], g_0), (.iaload, 1, 0, 0, [], g_0), (.ifCond .ge 9, 3, 3, 0, [], g_0), (.aload_n 0, 1, 0, 0, [], g_0), (.iconst 1, 1, 1, 0, [], g_0), (.invokevirtual 85, 3, 1, 8, [849, 851, 26, 77, 852], g_M_finds), (.ireturn, 1, 0, 0, [], g_0)]
def bk_M_write_3 : List En := [(.aload_n 0, 1, 0, 0, [], g_0), (.invokevirtual 200, 3, 0, 8, [975, 977, 36, 77, 978], g_M_find), (.aload_n 0, 1, 0, 0, [], g_0), (.getfield 13, 3, 8, 1, [753], g_0), (.iload_n 2, 1, 2, 0, [], g_0), (.iaload, 1, 0, 0, [], g_0), (.bipush 6, 2, 6, 0, [], g_0), (.invokestatic 292, 3, 2, 1, [1171, 1172, 0, 77, 1173], g_M_lesser), (.istore_n 3, 1, 3, 0, [], g_0), (.iconst 0, 1, 0, 0, [], g_0), (.istore 4, 2, 4, 0, [], g_0)]
def bk_M_write_4 : List En := [(.iload 4, 2, 4, 0, [], g_0), (.iload_n 3, 1, 3, 0, [], g_0), (.if_icmp .ge 45, 3, 5, 0, [], g_0), (.aload_n 0, 1, 0, 0, [], g_0), (.getfield 16, 3, 8, 2, [754], g_0), (.bipush 60, 2, 60, 0, [], g_0), (.iload_n 2, 1, 2, 0, [], g_0), (.imul, 1, 0, 0, [], g_0), (.iload 4, 2, 4, 0, [], g_0), (.iadd, 1, 0, 0, [], g_0), (.aload_n 0, 1, 0, 0, [], g_0), (.getfield 7, 3, 8, 0, [752], g_0), (.iload_n 2, 1, 2, 0, [], g_0), (.iaload, 1, 0, 0, [], g_0), (.aload_n 0, 1, 0, 0, [], g_0), (.getfield 52, 3, 8, 22, [774], g_0), (.bipush 36, 2, 36, 0, [], g_0), (.iload_n 1, 1, 1, 0, [], g_0), (.imul, 1, 0, 0, [], g_0), (.bipush 6, 2, 6, 0, [], g_0), (.iload 4, 2, 4, 0, [], g_0), (.imul, 1, 0, 0, [], g_0), (.iadd, 1, 0, 0, [], g_0), (.iaload, 1, 0, 0, [], g_0), (.invokestatic 93, 3, 2, 1, [865, 866, 0, 77, 867], g_M_cut), (.iastore, 1, 0, 0, [], g_0), (.iinc 4 1, 3, 4, 1, [0], g_0), (.goto (-45), 3, 4, 0, [], g_0)]
def bk_M_write_5 : List En := [(.iload_n 3, 1, 3, 0, [], g_0), (.ireturn, 1, 0, 0, [], g_0)]
def cd_M_write : Cd := [(0, bk_M_write_0), (14, bk_M_write_1), (17, bk_M_write_2), (32, bk_M_write_3), (51, bk_M_write_4), (99, bk_M_write_5), (101, [])]
def Y_M_write : Mth := (g_M_write, RM, cd_M_write)
set_option maxRecDepth 20000 in
theorem ok_M_write : okM Y_M_write = true := by decide +kernel
theorem en_M_write {d : Nat} {u : Mem} {Q : Option MV → Mem → Prop} (as : List MV) (hc : cats as ≤ 5) (h : RunB d Y_M_write 0 (argL as 5) [] u Q) : OKm d g_M_write as u Q := OKm.of (Y := Y_M_write) ok_M_write hc h
theorem rb_M_write_0 {d : Nat} {L : List (Option MV)} {st : List MV} {u : Mem} {Q : Option MV → Mem → Prop} (h : go d Y_M_write Q bk_M_write_0 0 L st u) : RunB (d + 1) Y_M_write 0 L st u Q := run_go ok_M_write (by decide) h
theorem rb_M_write_1 {d : Nat} {L : List (Option MV)} {st : List MV} {u : Mem} {Q : Option MV → Mem → Prop} (h : go d Y_M_write Q bk_M_write_1 1 L st u) : RunB (d + 1) Y_M_write 1 L st u Q := run_go ok_M_write (by decide) h
theorem rb_M_write_2 {d : Nat} {L : List (Option MV)} {st : List MV} {u : Mem} {Q : Option MV → Mem → Prop} (h : go d Y_M_write Q bk_M_write_2 2 L st u) : RunB (d + 1) Y_M_write 2 L st u Q := run_go ok_M_write (by decide) h
theorem rb_M_write_3 {d : Nat} {L : List (Option MV)} {st : List MV} {u : Mem} {Q : Option MV → Mem → Prop} (h : go d Y_M_write Q bk_M_write_3 3 L st u) : RunB (d + 1) Y_M_write 3 L st u Q := run_go ok_M_write (by decide) h
theorem rb_M_write_4 {d : Nat} {L : List (Option MV)} {st : List MV} {u : Mem} {Q : Option MV → Mem → Prop} (h : go d Y_M_write Q bk_M_write_4 4 L st u) : RunB (d + 1) Y_M_write 4 L st u Q := run_go ok_M_write (by decide) h
theorem rb_M_write_5 {d : Nat} {L : List (Option MV)} {st : List MV} {u : Mem} {Q : Option MV → Mem → Prop} (h : go d Y_M_write Q bk_M_write_5 5 L st u) : RunB (d + 1) Y_M_write 5 L st u Q := run_go ok_M_write (by decide) h
end
section
def bk_M_letters_0 : List En := [(.iconst 0, 1, 0, 0, [], g_0), (.istore_n 1, 1, 1, 0, [], g_0), (.iconst 0, 1, 0, 0, [], g_0), (.istore_n 2, 1, 2, 0, [], g_0)]
def bk_M_letters_1 : List En := [(.iload_n 2, 1, 2, 0, [], g_0), (.bipush 6, 2, 6, 0, [], g_0), (.if_icmp .ge 27, 3, 4, 0, [], g_0), (.iload_n 1, 1, 1, 0, [], g_0), (.aload_n 0, 1, 0, 0, [], g_0), (.getfield 37, 3, 8, 12, [764], g_0), (.iload_n 2, 1, 2, 0, [], g_0), (.iaload, 1, 0, 0, [], g_0), (.iconst (-1), 1, 1, 1, [], g_0), (.if_icmp .ne 7, 3, 2, 0, [], g_0), (.iconst 0, 1, 0, 0, [], g_0), (.goto 4, 3, 3, 0, [], g_0)]
def bk_M_letters_2 : List En := [(.iconst 1, 1, 1, 0, [], g_0)]
def bk_M_letters_3 : List En := [(.iadd, 1, 0, 0, [], g_0), (.istore_n 1, 1, 1, 0, [], g_0), (.iinc 2 1, 3, 2, 1, [0], g_0), (.goto (-27), 3, 1, 0, [], g_0)]
def bk_M_letters_4 : List En := [(.iload_n 1, 1, 1, 0, [], g_0), (.ireturn, 1, 0, 0, [], g_0)]
def cd_M_letters : Cd := [(0, bk_M_letters_0), (4, bk_M_letters_1), (25, bk_M_letters_2), (26, bk_M_letters_3), (34, bk_M_letters_4), (36, [])]
def Y_M_letters : Mth := (g_M_letters, RM, cd_M_letters)
set_option maxRecDepth 20000 in
theorem ok_M_letters : okM Y_M_letters = true := by decide +kernel
theorem en_M_letters {d : Nat} {u : Mem} {Q : Option MV → Mem → Prop} (as : List MV) (hc : cats as ≤ 3) (h : RunB d Y_M_letters 0 (argL as 3) [] u Q) : OKm d g_M_letters as u Q := OKm.of (Y := Y_M_letters) ok_M_letters hc h
theorem rb_M_letters_0 {d : Nat} {L : List (Option MV)} {st : List MV} {u : Mem} {Q : Option MV → Mem → Prop} (h : go d Y_M_letters Q bk_M_letters_0 0 L st u) : RunB (d + 1) Y_M_letters 0 L st u Q := run_go ok_M_letters (by decide) h
theorem rb_M_letters_1 {d : Nat} {L : List (Option MV)} {st : List MV} {u : Mem} {Q : Option MV → Mem → Prop} (h : go d Y_M_letters Q bk_M_letters_1 1 L st u) : RunB (d + 1) Y_M_letters 1 L st u Q := run_go ok_M_letters (by decide) h
theorem rb_M_letters_2 {d : Nat} {L : List (Option MV)} {st : List MV} {u : Mem} {Q : Option MV → Mem → Prop} (h : go d Y_M_letters Q bk_M_letters_2 2 L st u) : RunB (d + 1) Y_M_letters 2 L st u Q := run_go ok_M_letters (by decide) h
theorem rb_M_letters_3 {d : Nat} {L : List (Option MV)} {st : List MV} {u : Mem} {Q : Option MV → Mem → Prop} (h : go d Y_M_letters Q bk_M_letters_3 3 L st u) : RunB (d + 1) Y_M_letters 3 L st u Q := run_go ok_M_letters (by decide) h
theorem rb_M_letters_4 {d : Nat} {L : List (Option MV)} {st : List MV} {u : Mem} {Q : Option MV → Mem → Prop} (h : go d Y_M_letters Q bk_M_letters_4 4 L st u) : RunB (d + 1) Y_M_letters 4 L st u Q := run_go ok_M_letters (by decide) h
def bk_M_count_0 : List En := [(.aload_n 0, 1, 0, 0, [], g_0), (.invokevirtual 200, 3, 0, 8, [975, 977, 36, 77, 978], g_M_find), (.iload_n 1, 1, 1, 0, [], g_0), (.tableswitch 90 0 8 #[51, 56, 61, 66, 66, 66, 75, 80, 85], 51, 8, 0, [1, 2, 3, 4, 4, 4, 5, 6, 7], g_0)]
def bk_M_count_1 : List En := [(.aload_n 0, 1, 0, 0, [], g_0), (.getfield 106, 3, 8, 7, [759], g_0), (.ireturn, 1, 0, 0, [], g_0)]
def bk_M_count_2 : List En := [(.aload_n 0, 1, 0, 0, [], g_0), (.getfield 116, 3, 8, 10, [762], g_0), (.ireturn, 1, 0, 0, [], g_0)]
def bk_M_count_3 : List En := [(.aload_n 0, 1, 0, 0, [], g_0), (.invokevirtual 295, 3, 0, 8, [1178, 1180, 63, 77, 1181], g_M_letters), (.ireturn, 1, 0, 0, [], g_0)]
def bk_M_count_4 : List En := [(.aload_n 0, 1, 0, 0, [], g_0), (.getfield 25, 3, 8, 6, [758], g_0), (.iload_n 1, 1, 1, 0, [], g_0), (.iconst 3, 1, 3, 0, [], g_0), (.isub, 1, 0, 0, [], g_0), (.iaload, 1, 0, 0, [], g_0), (.ireturn, 1, 0, 0, [], g_0)]
def bk_M_count_5 : List En := [(.aload_n 0, 1, 0, 0, [], g_0), (.getfield 156, 3, 8, 13, [765], g_0), (.ireturn, 1, 0, 0, [], g_0)]
def bk_M_count_6 : List En := [(.aload_n 0, 1, 0, 0, [], g_0), (.getfield 239, 3, 8, 23, [775], g_0), (.ireturn, 1, 0, 0, [], g_0)]
def bk_M_count_7 : List En := [(.aload_n 0, 1, 0, 0, [], g_0), (.getfield 74, 3, 8, 4, [756], g_0), (.ireturn, 1, 0, 0, [], g_0)]
def bk_M_count_8 : List En := [(.bipush (-2), 2, 2, 1, [], g_0), (.ireturn, 1, 0, 0, [], g_0)]
def cd_M_count : Cd := [(0, bk_M_count_0), (56, bk_M_count_1), (61, bk_M_count_2), (66, bk_M_count_3), (71, bk_M_count_4), (80, bk_M_count_5), (85, bk_M_count_6), (90, bk_M_count_7), (95, bk_M_count_8), (98, [])]
def Y_M_count : Mth := (g_M_count, RM, cd_M_count)
set_option maxRecDepth 20000 in
theorem ok_M_count : okM Y_M_count = true := by decide +kernel
theorem en_M_count {d : Nat} {u : Mem} {Q : Option MV → Mem → Prop} (as : List MV) (hc : cats as ≤ 2) (h : RunB d Y_M_count 0 (argL as 2) [] u Q) : OKm d g_M_count as u Q := OKm.of (Y := Y_M_count) ok_M_count hc h
theorem rb_M_count_0 {d : Nat} {L : List (Option MV)} {st : List MV} {u : Mem} {Q : Option MV → Mem → Prop} (h : go d Y_M_count Q bk_M_count_0 0 L st u) : RunB (d + 1) Y_M_count 0 L st u Q := run_go ok_M_count (by decide) h
theorem rb_M_count_1 {d : Nat} {L : List (Option MV)} {st : List MV} {u : Mem} {Q : Option MV → Mem → Prop} (h : go d Y_M_count Q bk_M_count_1 1 L st u) : RunB (d + 1) Y_M_count 1 L st u Q := run_go ok_M_count (by decide) h
theorem rb_M_count_2 {d : Nat} {L : List (Option MV)} {st : List MV} {u : Mem} {Q : Option MV → Mem → Prop} (h : go d Y_M_count Q bk_M_count_2 2 L st u) : RunB (d + 1) Y_M_count 2 L st u Q := run_go ok_M_count (by decide) h
theorem rb_M_count_3 {d : Nat} {L : List (Option MV)} {st : List MV} {u : Mem} {Q : Option MV → Mem → Prop} (h : go d Y_M_count Q bk_M_count_3 3 L st u) : RunB (d + 1) Y_M_count 3 L st u Q := run_go ok_M_count (by decide) h
theorem rb_M_count_4 {d : Nat} {L : List (Option MV)} {st : List MV} {u : Mem} {Q : Option MV → Mem → Prop} (h : go d Y_M_count Q bk_M_count_4 4 L st u) : RunB (d + 1) Y_M_count 4 L st u Q := run_go ok_M_count (by decide) h
theorem rb_M_count_5 {d : Nat} {L : List (Option MV)} {st : List MV} {u : Mem} {Q : Option MV → Mem → Prop} (h : go d Y_M_count Q bk_M_count_5 5 L st u) : RunB (d + 1) Y_M_count 5 L st u Q := run_go ok_M_count (by decide) h
theorem rb_M_count_6 {d : Nat} {L : List (Option MV)} {st : List MV} {u : Mem} {Q : Option MV → Mem → Prop} (h : go d Y_M_count Q bk_M_count_6 6 L st u) : RunB (d + 1) Y_M_count 6 L st u Q := run_go ok_M_count (by decide) h
theorem rb_M_count_7 {d : Nat} {L : List (Option MV)} {st : List MV} {u : Mem} {Q : Option MV → Mem → Prop} (h : go d Y_M_count Q bk_M_count_7 7 L st u) : RunB (d + 1) Y_M_count 7 L st u Q := run_go ok_M_count (by decide) h
theorem rb_M_count_8 {d : Nat} {L : List (Option MV)} {st : List MV} {u : Mem} {Q : Option MV → Mem → Prop} (h : go d Y_M_count Q bk_M_count_8 8 L st u) : RunB (d + 1) Y_M_count 8 L st u Q := run_go ok_M_count (by decide) h
def bk_M_tellsDay_0 : List En := [(.aload_n 0, 1, 0, 0, [], g_0), (.invokevirtual 197, 3, 0, 8, [979, 981, 37, 77, 982], g_M_lives), (.ldc2_w 298, 3, 31, 0, [1187], g_0), (.lload_n 1, 1, 1, 0, [], g_0), (.lmul, 1, 0, 0, [], g_0), (.aload_n 0, 1, 0, 0, [], g_0), (.getfield 34, 3, 8, 11, [763], g_0), (.iload_n 3, 1, 3, 0, [], g_0), (.iaload, 1, 0, 0, [], g_0), (.i2l, 1, 0, 0, [], g_0), (.ladd, 1, 0, 0, [], g_0), (.lstore 4, 2, 4, 0, [], g_0), (.ldc2_w 298, 3, 31, 0, [1187], g_0), (.lload 4, 2, 4, 0, [], g_0), (.lmul, 1, 0, 0, [], g_0), (.aload_n 0, 1, 0, 0, [], g_0), (.iload_n 3, 1, 3, 0, [], g_0), (.invokevirtual 203, 3, 1, 8, [1017, 1019, 44, 77, 1020], g_M_isObeyed), (.ifCond .eq 7, 3, 1, 0, [], g_0), (.iconst 1, 1, 1, 0, [], g_0), (.goto 4, 3, 2, 0, [], g_0)]
def bk_M_tellsDay_1 : List En := [(.iconst 0, 1, 0, 0, [], g_0)]
def bk_M_tellsDay_2 : List En := [(.i2l, 1, 0, 0, [], g_0), (.ladd, 1, 0, 0, [], g_0), (.lstore 4, 2, 4, 0, [], g_0), (.ldc2_w 298, 3, 31, 0, [1187], g_0), (.lload 4, 2, 4, 0, [], g_0), (.lmul, 1, 0, 0, [], g_0), (.aload_n 0, 1, 0, 0, [], g_0), (.iload_n 3, 1, 3, 0, [], g_0), (.iconst (-1), 1, 1, 1, [], g_0), (.invokevirtual 227, 3, 2, 8, [1057, 1059, 49, 77, 1060], g_M_ripOf), (.i2l, 1, 0, 0, [], g_0), (.ladd, 1, 0, 0, [], g_0), (.lstore 4, 2, 4, 0, [], g_0), (.ldc2_w 298, 3, 31, 0, [1187], g_0), (.lload 4, 2, 4, 0, [], g_0), (.lmul, 1, 0, 0, [], g_0), (.aload_n 0, 1, 0, 0, [], g_0), (.iload_n 3, 1, 3, 0, [], g_0), (.iconst 0, 1, 0, 0, [], g_0), (.invokevirtual 227, 3, 2, 8, [1057, 1059, 49, 77, 1060], g_M_ripOf), (.i2l, 1, 0, 0, [], g_0), (.ladd, 1, 0, 0, [], g_0), (.lstore 4, 2, 4, 0, [], g_0), (.ldc2_w 298, 3, 31, 0, [1187], g_0), (.lload 4, 2, 4, 0, [], g_0), (.lmul, 1, 0, 0, [], g_0), (.aload_n 0, 1, 0, 0, [], g_0), (.iload_n 3, 1, 3, 0, [], g_0), (.invokevirtual 230, 3, 1, 8, [1069, 1071, 51, 77, 1072], g_M_wetOf), (.i2l, 1, 0, 0, [], g_0), (.ladd, 1, 0, 0, [], g_0), (.lstore 4, 2, 4, 0, [], g_0), (.aload_n 0, 1, 0, 0, [], g_0), (.invokevirtual 197, 3, 0, 8, [979, 981, 37, 77, 982], g_M_lives), (.iconst 0, 1, 0, 0, [], g_0), (.istore 6, 2, 6, 0, [], g_0)]
def bk_M_tellsDay_3 : List En := [(.iload 6, 2, 6, 0, [], g_0), (.bipush 36, 2, 36, 0, [], g_0), (.if_icmp .ge 31, 3, 4, 0, [], g_0), (.ldc2_w 298, 3, 31, 0, [1187], g_0), (.lload 4, 2, 4, 0, [], g_0), (.lmul, 1, 0, 0, [], g_0), (.aload_n 0, 1, 0, 0, [], g_0), (.getfield 52, 3, 8, 22, [774], g_0), (.bipush 36, 2, 36, 0, [], g_0), (.iload_n 3, 1, 3, 0, [], g_0), (.imul, 1, 0, 0, [], g_0), (.iload 6, 2, 6, 0, [], g_0), (.iadd, 1, 0, 0, [], g_0), (.iaload, 1, 0, 0, [], g_0), (.i2l, 1, 0, 0, [], g_0), (.ladd, 1, 0, 0, [], g_0), (.lstore 4, 2, 4, 0, [], g_0), (.iinc 6 1, 3, 6, 1, [0], g_0), (.goto (-32), 3, 3, 0, [], g_0)]
def bk_M_tellsDay_4 : List En := [(.lload 4, 2, 4, 0, [], g_0), (.lreturn, 1, 0, 0, [], g_0)]
def cd_M_tellsDay : Cd := [(0, bk_M_tellsDay_0), (37, bk_M_tellsDay_1), (38, bk_M_tellsDay_2), (96, bk_M_tellsDay_3), (131, bk_M_tellsDay_4), (134, [])]
def Y_M_tellsDay : Mth := (g_M_tellsDay, RM, cd_M_tellsDay)
set_option maxRecDepth 20000 in
theorem ok_M_tellsDay : okM Y_M_tellsDay = true := by decide +kernel
theorem en_M_tellsDay {d : Nat} {u : Mem} {Q : Option MV → Mem → Prop} (as : List MV) (hc : cats as ≤ 7) (h : RunB d Y_M_tellsDay 0 (argL as 7) [] u Q) : OKm d g_M_tellsDay as u Q := OKm.of (Y := Y_M_tellsDay) ok_M_tellsDay hc h
theorem rb_M_tellsDay_0 {d : Nat} {L : List (Option MV)} {st : List MV} {u : Mem} {Q : Option MV → Mem → Prop} (h : go d Y_M_tellsDay Q bk_M_tellsDay_0 0 L st u) : RunB (d + 1) Y_M_tellsDay 0 L st u Q := run_go ok_M_tellsDay (by decide) h
theorem rb_M_tellsDay_1 {d : Nat} {L : List (Option MV)} {st : List MV} {u : Mem} {Q : Option MV → Mem → Prop} (h : go d Y_M_tellsDay Q bk_M_tellsDay_1 1 L st u) : RunB (d + 1) Y_M_tellsDay 1 L st u Q := run_go ok_M_tellsDay (by decide) h
theorem rb_M_tellsDay_2 {d : Nat} {L : List (Option MV)} {st : List MV} {u : Mem} {Q : Option MV → Mem → Prop} (h : go d Y_M_tellsDay Q bk_M_tellsDay_2 2 L st u) : RunB (d + 1) Y_M_tellsDay 2 L st u Q := run_go ok_M_tellsDay (by decide) h
theorem rb_M_tellsDay_3 {d : Nat} {L : List (Option MV)} {st : List MV} {u : Mem} {Q : Option MV → Mem → Prop} (h : go d Y_M_tellsDay Q bk_M_tellsDay_3 3 L st u) : RunB (d + 1) Y_M_tellsDay 3 L st u Q := run_go ok_M_tellsDay (by decide) h
theorem rb_M_tellsDay_4 {d : Nat} {L : List (Option MV)} {st : List MV} {u : Mem} {Q : Option MV → Mem → Prop} (h : go d Y_M_tellsDay Q bk_M_tellsDay_4 4 L st u) : RunB (d + 1) Y_M_tellsDay 4 L st u Q := run_go ok_M_tellsDay (by decide) h
def bk_M_tellsPoster_0 : List En := [(.lload_n 1, 1, 1, 0, [], g_0), (.lstore 4, 2, 4, 0, [], g_0), (.iconst 0, 1, 0, 0, [], g_0), (.istore 6, 2, 6, 0, [], g_0)]
def bk_M_tellsPoster_1 : List En := [(.iload 6, 2, 6, 0, [], g_0), (.bipush 9, 2, 9, 0, [], g_0), (.if_icmp .ge 26, 3, 2, 0, [], g_0), (.ldc2_w 298, 3, 31, 0, [1187], g_0), (.lload 4, 2, 4, 0, [], g_0), (.lmul, 1, 0, 0, [], g_0), (.aload_n 0, 1, 0, 0, [], g_0), (.iload_n 3, 1, 3, 0, [], g_0), (.iload 6, 2, 6, 0, [], g_0), (.invokevirtual 147, 3, 2, 8, [938, 940, 35, 77, 941], g_M_posterBy), (.i2l, 1, 0, 0, [], g_0), (.ladd, 1, 0, 0, [], g_0), (.lstore 4, 2, 4, 0, [], g_0), (.iinc 6 1, 3, 6, 1, [0], g_0), (.goto (-27), 3, 1, 0, [], g_0)]
def bk_M_tellsPoster_2 : List En := [(.ldc2_w 298, 3, 31, 0, [1187], g_0), (.lload 4, 2, 4, 0, [], g_0), (.lmul, 1, 0, 0, [], g_0), (.aload_n 0, 1, 0, 0, [], g_0), (.iload_n 3, 1, 3, 0, [], g_0), (.iconst 0, 1, 0, 0, [], g_0), (.invokevirtual 233, 3, 2, 8, [1077, 1079, 52, 77, 1080], g_M_pasteOf), (.i2l, 1, 0, 0, [], g_0), (.ladd, 1, 0, 0, [], g_0), (.lstore 4, 2, 4, 0, [], g_0), (.ldc2_w 298, 3, 31, 0, [1187], g_0), (.lload 4, 2, 4, 0, [], g_0), (.lmul, 1, 0, 0, [], g_0), (.aload_n 0, 1, 0, 0, [], g_0), (.iload_n 3, 1, 3, 0, [], g_0), (.iconst 1, 1, 1, 0, [], g_0), (.invokevirtual 233, 3, 2, 8, [1077, 1079, 52, 77, 1080], g_M_pasteOf), (.i2l, 1, 0, 0, [], g_0), (.ladd, 1, 0, 0, [], g_0), (.lstore 4, 2, 4, 0, [], g_0), (.iconst 0, 1, 0, 0, [], g_0), (.istore 6, 2, 6, 0, [], g_0)]
def bk_M_tellsPoster_3 : List En := [(.iload 6, 2, 6, 0, [], g_0), (.iconst 3, 1, 3, 0, [], g_0), (.if_icmp .ge 26, 3, 4, 0, [], g_0), (.ldc2_w 298, 3, 31, 0, [1187], g_0), (.lload 4, 2, 4, 0, [], g_0), (.lmul, 1, 0, 0, [], g_0), (.aload_n 0, 1, 0, 0, [], g_0), (.iload_n 3, 1, 3, 0, [], g_0), (.iload 6, 2, 6, 0, [], g_0), (.invokevirtual 236, 3, 2, 8, [1085, 1087, 53, 77, 1088], g_M_stickOf), (.i2l, 1, 0, 0, [], g_0), (.ladd, 1, 0, 0, [], g_0), (.lstore 4, 2, 4, 0, [], g_0), (.iinc 6 1, 3, 6, 1, [0], g_0), (.goto (-26), 3, 3, 0, [], g_0)]
def bk_M_tellsPoster_4 : List En := [(.ldc2_w 298, 3, 31, 0, [1187], g_0), (.lload 4, 2, 4, 0, [], g_0), (.lmul, 1, 0, 0, [], g_0), (.aload_n 0, 1, 0, 0, [], g_0), (.iload_n 3, 1, 3, 0, [], g_0), (.invokevirtual 249, 3, 1, 8, [1117, 1119, 57, 77, 1120], g_M_thicksOf), (.i2l, 1, 0, 0, [], g_0), (.ladd, 1, 0, 0, [], g_0), (.lstore 4, 2, 4, 0, [], g_0), (.ldc2_w 298, 3, 31, 0, [1187], g_0), (.lload 4, 2, 4, 0, [], g_0), (.lmul, 1, 0, 0, [], g_0), (.aload_n 0, 1, 0, 0, [], g_0), (.iload_n 3, 1, 3, 0, [], g_0), (.invokevirtual 252, 3, 1, 8, [1121, 1123, 58, 77, 1124], g_M_yearsOf), (.i2l, 1, 0, 0, [], g_0), (.ladd, 1, 0, 0, [], g_0), (.lstore 4, 2, 4, 0, [], g_0), (.ldc2_w 298, 3, 31, 0, [1187], g_0), (.lload 4, 2, 4, 0, [], g_0), (.lmul, 1, 0, 0, [], g_0), (.aload_n 0, 1, 0, 0, [], g_0), (.iload_n 3, 1, 3, 0, [], g_0), (.invokevirtual 258, 3, 1, 8, [1129, 1131, 59, 77, 1132], g_M_askOf), (.i2l, 1, 0, 0, [], g_0), (.ladd, 1, 0, 0, [], g_0), (.lreturn, 1, 0, 0, [], g_0)]
def cd_M_tellsPoster : Cd := [(0, bk_M_tellsPoster_0), (6, bk_M_tellsPoster_1), (36, bk_M_tellsPoster_2), (71, bk_M_tellsPoster_3), (100, bk_M_tellsPoster_4), (144, [])]
def Y_M_tellsPoster : Mth := (g_M_tellsPoster, RM, cd_M_tellsPoster)
set_option maxRecDepth 20000 in
theorem ok_M_tellsPoster : okM Y_M_tellsPoster = true := by decide +kernel
theorem en_M_tellsPoster {d : Nat} {u : Mem} {Q : Option MV → Mem → Prop} (as : List MV) (hc : cats as ≤ 7) (h : RunB d Y_M_tellsPoster 0 (argL as 7) [] u Q) : OKm d g_M_tellsPoster as u Q := OKm.of (Y := Y_M_tellsPoster) ok_M_tellsPoster hc h
theorem rb_M_tellsPoster_0 {d : Nat} {L : List (Option MV)} {st : List MV} {u : Mem} {Q : Option MV → Mem → Prop} (h : go d Y_M_tellsPoster Q bk_M_tellsPoster_0 0 L st u) : RunB (d + 1) Y_M_tellsPoster 0 L st u Q := run_go ok_M_tellsPoster (by decide) h
theorem rb_M_tellsPoster_1 {d : Nat} {L : List (Option MV)} {st : List MV} {u : Mem} {Q : Option MV → Mem → Prop} (h : go d Y_M_tellsPoster Q bk_M_tellsPoster_1 1 L st u) : RunB (d + 1) Y_M_tellsPoster 1 L st u Q := run_go ok_M_tellsPoster (by decide) h
theorem rb_M_tellsPoster_2 {d : Nat} {L : List (Option MV)} {st : List MV} {u : Mem} {Q : Option MV → Mem → Prop} (h : go d Y_M_tellsPoster Q bk_M_tellsPoster_2 2 L st u) : RunB (d + 1) Y_M_tellsPoster 2 L st u Q := run_go ok_M_tellsPoster (by decide) h
theorem rb_M_tellsPoster_3 {d : Nat} {L : List (Option MV)} {st : List MV} {u : Mem} {Q : Option MV → Mem → Prop} (h : go d Y_M_tellsPoster Q bk_M_tellsPoster_3 3 L st u) : RunB (d + 1) Y_M_tellsPoster 3 L st u Q := run_go ok_M_tellsPoster (by decide) h
theorem rb_M_tellsPoster_4 {d : Nat} {L : List (Option MV)} {st : List MV} {u : Mem} {Q : Option MV → Mem → Prop} (h : go d Y_M_tellsPoster Q bk_M_tellsPoster_4 4 L st u) : RunB (d + 1) Y_M_tellsPoster 4 L st u Q := run_go ok_M_tellsPoster (by decide) h
def bk_M_digest_0 : List En := [(.ldc2_w 300, 3, 17, 0, [1186], g_0), (.lstore_n 1, 1, 1, 0, [], g_0), (.iconst 0, 1, 0, 0, [], g_0), (.istore_n 3, 1, 3, 0, [], g_0)]
def bk_M_digest_1 : List En := [(.iload_n 3, 1, 3, 0, [], g_0), (.bipush 8, 2, 8, 0, [], g_0), (.if_icmp .ge 22, 3, 2, 0, [], g_0), (.ldc2_w 298, 3, 31, 0, [1187], g_0), (.lload_n 1, 1, 1, 0, [], g_0), (.lmul, 1, 0, 0, [], g_0), (.aload_n 0, 1, 0, 0, [], g_0), (.iload_n 3, 1, 3, 0, [], g_0), (.invokevirtual 302, 3, 1, 8, [1188, 1175, 1176, 77, 1177], g_M_count), (.i2l, 1, 0, 0, [], g_0), (.ladd, 1, 0, 0, [], g_0), (.lstore_n 1, 1, 1, 0, [], g_0), (.iinc 3 1, 3, 3, 1, [0], g_0), (.goto (-22), 3, 1, 0, [], g_0)]
def bk_M_digest_2 : List En := [(.iconst 0, 1, 0, 0, [], g_0), (.istore_n 3, 1, 3, 0, [], g_0)]
def bk_M_digest_3 : List En := [(.iload_n 3, 1, 3, 0, [], g_0), (.iconst 3, 1, 3, 0, [], g_0), (.if_icmp .ge 22, 3, 4, 0, [], g_0), (.ldc2_w 298, 3, 31, 0, [1187], g_0), (.lload_n 1, 1, 1, 0, [], g_0), (.lmul, 1, 0, 0, [], g_0), (.aload_n 0, 1, 0, 0, [], g_0), (.iload_n 3, 1, 3, 0, [], g_0), (.invokevirtual 135, 3, 1, 8, [897, 899, 28, 77, 900], g_M_readsText), (.i2l, 1, 0, 0, [], g_0), (.ladd, 1, 0, 0, [], g_0), (.lstore_n 1, 1, 1, 0, [], g_0), (.iinc 3 1, 3, 3, 1, [0], g_0), (.goto (-21), 3, 3, 0, [], g_0)]
def bk_M_digest_4 : List En := [(.aload_n 0, 1, 0, 0, [], g_0), (.aload_n 0, 1, 0, 0, [], g_0), (.aload_n 0, 1, 0, 0, [], g_0), (.aload_n 0, 1, 0, 0, [], g_0), (.lload_n 1, 1, 1, 0, [], g_0), (.iconst 0, 1, 0, 0, [], g_0), (.invokevirtual 305, 3, 2, 8, [1189, 1191, 64, 77, 1192], g_M_tellsDay), (.iconst 4, 1, 4, 0, [], g_0), (.invokevirtual 305, 3, 2, 8, [1189, 1191, 64, 77, 1192], g_M_tellsDay), (.bipush 9, 2, 9, 0, [], g_0), (.invokevirtual 305, 3, 2, 8, [1189, 1191, 64, 77, 1192], g_M_tellsDay), (.bipush 19, 2, 19, 0, [], g_0), (.invokevirtual 305, 3, 2, 8, [1189, 1191, 64, 77, 1192], g_M_tellsDay), (.lstore_n 1, 1, 1, 0, [], g_0), (.iconst 0, 1, 0, 0, [], g_0), (.istore_n 3, 1, 3, 0, [], g_0)]
def bk_M_digest_5 : List En := [(.iload_n 3, 1, 3, 0, [], g_0), (.bipush 6, 2, 6, 0, [], g_0), (.if_icmp .ge 23, 3, 6, 0, [], g_0), (.ldc2_w 298, 3, 31, 0, [1187], g_0), (.lload_n 1, 1, 1, 0, [], g_0), (.lmul, 1, 0, 0, [], g_0), (.aload_n 0, 1, 0, 0, [], g_0), (.getfield 37, 3, 8, 12, [764], g_0), (.iload_n 3, 1, 3, 0, [], g_0), (.iaload, 1, 0, 0, [], g_0), (.i2l, 1, 0, 0, [], g_0), (.ladd, 1, 0, 0, [], g_0), (.lstore_n 1, 1, 1, 0, [], g_0), (.iinc 3 1, 3, 3, 1, [0], g_0), (.goto (-23), 3, 5, 0, [], g_0)]
def bk_M_digest_6 : List En := [(.iconst 0, 1, 0, 0, [], g_0), (.istore_n 3, 1, 3, 0, [], g_0)]
def bk_M_digest_7 : List En := [(.iload_n 3, 1, 3, 0, [], g_0), (.aload_n 0, 1, 0, 0, [], g_0), (.getfield 106, 3, 8, 7, [759], g_0), (.if_icmp .ge 16, 3, 8, 0, [], g_0), (.aload_n 0, 1, 0, 0, [], g_0), (.lload_n 1, 1, 1, 0, [], g_0), (.iload_n 3, 1, 3, 0, [], g_0), (.invokevirtual 309, 3, 2, 8, [1193, 1195, 65, 77, 1196], g_M_tellsPoster), (.lstore_n 1, 1, 1, 0, [], g_0), (.iinc 3 1, 3, 3, 1, [0], g_0), (.goto (-18), 3, 7, 0, [], g_0)]
def bk_M_digest_8 : List En := [(.aload_n 0, 1, 0, 0, [], g_0), (.invokevirtual 197, 3, 0, 8, [979, 981, 37, 77, 982], g_M_lives), (.ldc2_w 298, 3, 31, 0, [1187], g_0), (.lload_n 1, 1, 1, 0, [], g_0), (.lmul, 1, 0, 0, [], g_0), (.aload_n 0, 1, 0, 0, [], g_0), (.iconst 0, 1, 0, 0, [], g_0), (.invokevirtual 209, 3, 1, 8, [1028, 1030, 45, 77, 1031], g_M_daysBy), (.i2l, 1, 0, 0, [], g_0), (.ladd, 1, 0, 0, [], g_0), (.lstore_n 1, 1, 1, 0, [], g_0), (.ldc2_w 298, 3, 31, 0, [1187], g_0), (.lload_n 1, 1, 1, 0, [], g_0), (.lmul, 1, 0, 0, [], g_0), (.aload_n 0, 1, 0, 0, [], g_0), (.iconst 1, 1, 1, 0, [], g_0), (.invokevirtual 209, 3, 1, 8, [1028, 1030, 45, 77, 1031], g_M_daysBy), (.i2l, 1, 0, 0, [], g_0), (.ladd, 1, 0, 0, [], g_0), (.lstore_n 1, 1, 1, 0, [], g_0), (.ldc2_w 298, 3, 31, 0, [1187], g_0), (.lload_n 1, 1, 1, 0, [], g_0), (.lmul, 1, 0, 0, [], g_0), (.aload_n 0, 1, 0, 0, [], g_0), (.invokevirtual 215, 3, 0, 8, [1036, 1038, 46, 77, 1039], g_M_unreadNow), (.i2l, 1, 0, 0, [], g_0), (.ladd, 1, 0, 0, [], g_0), (.lstore_n 1, 1, 1, 0, [], g_0), (.ldc2_w 298, 3, 31, 0, [1187], g_0), (.lload_n 1, 1, 1, 0, [], g_0), (.lmul, 1, 0, 0, [], g_0), (.aload_n 0, 1, 0, 0, [], g_0), (.invokevirtual 218, 3, 0, 8, [1048, 1050, 48, 77, 1051], g_M_oftenNow), (.i2l, 1, 0, 0, [], g_0), (.ladd, 1, 0, 0, [], g_0), (.lstore_n 1, 1, 1, 0, [], g_0), (.ldc2_w 298, 3, 31, 0, [1187], g_0), (.lload_n 1, 1, 1, 0, [], g_0), (.lmul, 1, 0, 0, [], g_0), (.aload_n 0, 1, 0, 0, [], g_0), (.invokevirtual 246, 3, 0, 8, [1101, 1103, 54, 77, 1104], g_M_neverNow), (.i2l, 1, 0, 0, [], g_0), (.ladd, 1, 0, 0, [], g_0), (.lstore_n 1, 1, 1, 0, [], g_0), (.ldc2_w 298, 3, 31, 0, [1187], g_0), (.lload_n 1, 1, 1, 0, [], g_0), (.lmul, 1, 0, 0, [], g_0), (.aload_n 0, 1, 0, 0, [], g_0), (.iconst 5, 1, 5, 0, [], g_0), (.bipush 7, 2, 7, 0, [], g_0), (.bipush 19, 2, 19, 0, [], g_0), (.iconst 0, 1, 0, 0, [], g_0), (.invokevirtual 269, 3, 4, 8, [1139, 1141, 60, 77, 1142], g_M_showerOf), (.ladd, 1, 0, 0, [], g_0), (.lstore_n 1, 1, 1, 0, [], g_0), (.ldc2_w 298, 3, 31, 0, [1187], g_0), (.lload_n 1, 1, 1, 0, [], g_0), (.lmul, 1, 0, 0, [], g_0), (.aload_n 0, 1, 0, 0, [], g_0), (.iconst 5, 1, 5, 0, [], g_0), (.bipush 7, 2, 7, 0, [], g_0), (.bipush 19, 2, 19, 0, [], g_0), (.iconst 1, 1, 1, 0, [], g_0), (.invokevirtual 269, 3, 4, 8, [1139, 1141, 60, 77, 1142], g_M_showerOf), (.ladd, 1, 0, 0, [], g_0), (.lstore_n 1, 1, 1, 0, [], g_0), (.ldc2_w 298, 3, 31, 0, [1187], g_0), (.lload_n 1, 1, 1, 0, [], g_0), (.lmul, 1, 0, 0, [], g_0), (.aload_n 0, 1, 0, 0, [], g_0), (.bipush 7, 2, 7, 0, [], g_0), (.bipush 15, 2, 15, 0, [], g_0), (.iconst 0, 1, 0, 0, [], g_0), (.invokevirtual 289, 3, 3, 8, [1155, 1157, 61, 77, 1158], g_M_seasonOf), (.i2l, 1, 0, 0, [], g_0), (.ladd, 1, 0, 0, [], g_0), (.lstore_n 1, 1, 1, 0, [], g_0), (.ldc2_w 298, 3, 31, 0, [1187], g_0), (.lload_n 1, 1, 1, 0, [], g_0), (.lmul, 1, 0, 0, [], g_0), (.aload_n 0, 1, 0, 0, [], g_0), (.bipush 7, 2, 7, 0, [], g_0), (.bipush 15, 2, 15, 0, [], g_0), (.iconst 1, 1, 1, 0, [], g_0), (.invokevirtual 289, 3, 3, 8, [1155, 1157, 61, 77, 1158], g_M_seasonOf), (.i2l, 1, 0, 0, [], g_0), (.ladd, 1, 0, 0, [], g_0), (.lreturn, 1, 0, 0, [], g_0)]
def cd_M_digest : Cd := [(0, bk_M_digest_0), (6, bk_M_digest_1), (31, bk_M_digest_2), (33, bk_M_digest_3), (57, bk_M_digest_4), (83, bk_M_digest_5), (109, bk_M_digest_6), (111, bk_M_digest_7), (132, bk_M_digest_8), (266, [])]
def Y_M_digest : Mth := (g_M_digest, RM, cd_M_digest)
set_option maxRecDepth 20000 in
theorem ok_M_digest : okM Y_M_digest = true := by decide +kernel
theorem en_M_digest {d : Nat} {u : Mem} {Q : Option MV → Mem → Prop} (as : List MV) (hc : cats as ≤ 4) (h : RunB d Y_M_digest 0 (argL as 4) [] u Q) : OKm d g_M_digest as u Q := OKm.of (Y := Y_M_digest) ok_M_digest hc h
theorem rb_M_digest_0 {d : Nat} {L : List (Option MV)} {st : List MV} {u : Mem} {Q : Option MV → Mem → Prop} (h : go d Y_M_digest Q bk_M_digest_0 0 L st u) : RunB (d + 1) Y_M_digest 0 L st u Q := run_go ok_M_digest (by decide) h
theorem rb_M_digest_1 {d : Nat} {L : List (Option MV)} {st : List MV} {u : Mem} {Q : Option MV → Mem → Prop} (h : go d Y_M_digest Q bk_M_digest_1 1 L st u) : RunB (d + 1) Y_M_digest 1 L st u Q := run_go ok_M_digest (by decide) h
theorem rb_M_digest_2 {d : Nat} {L : List (Option MV)} {st : List MV} {u : Mem} {Q : Option MV → Mem → Prop} (h : go d Y_M_digest Q bk_M_digest_2 2 L st u) : RunB (d + 1) Y_M_digest 2 L st u Q := run_go ok_M_digest (by decide) h
theorem rb_M_digest_3 {d : Nat} {L : List (Option MV)} {st : List MV} {u : Mem} {Q : Option MV → Mem → Prop} (h : go d Y_M_digest Q bk_M_digest_3 3 L st u) : RunB (d + 1) Y_M_digest 3 L st u Q := run_go ok_M_digest (by decide) h
theorem rb_M_digest_4 {d : Nat} {L : List (Option MV)} {st : List MV} {u : Mem} {Q : Option MV → Mem → Prop} (h : go d Y_M_digest Q bk_M_digest_4 4 L st u) : RunB (d + 1) Y_M_digest 4 L st u Q := run_go ok_M_digest (by decide) h
theorem rb_M_digest_5 {d : Nat} {L : List (Option MV)} {st : List MV} {u : Mem} {Q : Option MV → Mem → Prop} (h : go d Y_M_digest Q bk_M_digest_5 5 L st u) : RunB (d + 1) Y_M_digest 5 L st u Q := run_go ok_M_digest (by decide) h
theorem rb_M_digest_6 {d : Nat} {L : List (Option MV)} {st : List MV} {u : Mem} {Q : Option MV → Mem → Prop} (h : go d Y_M_digest Q bk_M_digest_6 6 L st u) : RunB (d + 1) Y_M_digest 6 L st u Q := run_go ok_M_digest (by decide) h
theorem rb_M_digest_7 {d : Nat} {L : List (Option MV)} {st : List MV} {u : Mem} {Q : Option MV → Mem → Prop} (h : go d Y_M_digest Q bk_M_digest_7 7 L st u) : RunB (d + 1) Y_M_digest 7 L st u Q := run_go ok_M_digest (by decide) h
theorem rb_M_digest_8 {d : Nat} {L : List (Option MV)} {st : List MV} {u : Mem} {Q : Option MV → Mem → Prop} (h : go d Y_M_digest Q bk_M_digest_8 8 L st u) : RunB (d + 1) Y_M_digest 8 L st u Q := run_go ok_M_digest (by decide) h
def bk_J_bitCount_0 : List En := [(.iload_n 0, 1, 0, 0, [], g_0), (.iload_n 0, 1, 0, 0, [], g_0), (.iconst 1, 1, 1, 0, [], g_0), (.iushr, 1, 0, 0, [], g_0), (.ldc_w 265, 3, 1431655765, 0, [665], g_0), (.iand, 1, 0, 0, [], g_0), (.isub, 1, 0, 0, [], g_0), (.istore_n 0, 1, 0, 0, [], g_0), (.iload_n 0, 1, 0, 0, [], g_0), (.ldc_w 266, 3, 858993459, 0, [666], g_0), (.iand, 1, 0, 0, [], g_0), (.iload_n 0, 1, 0, 0, [], g_0), (.iconst 2, 1, 2, 0, [], g_0), (.iushr, 1, 0, 0, [], g_0), (.ldc_w 266, 3, 858993459, 0, [666], g_0), (.iand, 1, 0, 0, [], g_0), (.iadd, 1, 0, 0, [], g_0), (.istore_n 0, 1, 0, 0, [], g_0), (.iload_n 0, 1, 0, 0, [], g_0), (.iload_n 0, 1, 0, 0, [], g_0), (.iconst 4, 1, 4, 0, [], g_0), (.iushr, 1, 0, 0, [], g_0), (.iadd, 1, 0, 0, [], g_0), (.ldc_w 267, 3, 252645135, 0, [667], g_0), (.iand, 1, 0, 0, [], g_0), (.istore_n 0, 1, 0, 0, [], g_0), (.iload_n 0, 1, 0, 0, [], g_0), (.iload_n 0, 1, 0, 0, [], g_0), (.bipush 8, 2, 8, 0, [], g_0), (.iushr, 1, 0, 0, [], g_0), (.iadd, 1, 0, 0, [], g_0), (.istore_n 0, 1, 0, 0, [], g_0), (.iload_n 0, 1, 0, 0, [], g_0), (.iload_n 0, 1, 0, 0, [], g_0), (.bipush 16, 2, 16, 0, [], g_0), (.iushr, 1, 0, 0, [], g_0), (.iadd, 1, 0, 0, [], g_0), (.istore_n 0, 1, 0, 0, [], g_0), (.iload_n 0, 1, 0, 0, [], g_0), (.bipush 63, 2, 63, 0, [], g_0), (.iand, 1, 0, 0, [], g_0), (.ireturn, 1, 0, 0, [], g_0)]
def cd_J_bitCount : Cd := [(0, bk_J_bitCount_0), (53, [])]
def Y_J_bitCount : Mth := (g_J_bitCount, "java/lang/Integer", cd_J_bitCount)
set_option maxRecDepth 20000 in
theorem ok_J_bitCount : okM Y_J_bitCount = true := by decide +kernel
theorem en_J_bitCount {d : Nat} {u : Mem} {Q : Option MV → Mem → Prop} (as : List MV) (hc : cats as ≤ 1) (h : RunB d Y_J_bitCount 0 (argL as 1) [] u Q) : OKm d g_J_bitCount as u Q := OKm.of (Y := Y_J_bitCount) ok_J_bitCount hc h
theorem rb_J_bitCount_0 {d : Nat} {L : List (Option MV)} {st : List MV} {u : Mem} {Q : Option MV → Mem → Prop} (h : go d Y_J_bitCount Q bk_J_bitCount_0 0 L st u) : RunB (d + 1) Y_J_bitCount 0 L st u Q := run_go ok_J_bitCount (by decide) h
def bk_J_fill_0 : List En := [(.iconst 0, 1, 0, 0, [], g_0), (.istore_n 2, 1, 2, 0, [], g_0), (.aload_n 0, 1, 0, 0, [], g_0), (.arraylength, 1, 0, 0, [], g_0), (.istore_n 3, 1, 3, 0, [], g_0)]
def bk_J_fill_1 : List En := [(.iload_n 2, 1, 2, 0, [], g_0), (.iload_n 3, 1, 3, 0, [], g_0), (.if_icmp .ge 13, 3, 2, 0, [], g_0), (.aload_n 0, 1, 0, 0, [], g_0), (.iload_n 2, 1, 2, 0, [], g_0), (.iload_n 1, 1, 1, 0, [], g_0), (.iastore, 1, 0, 0, [], g_0), (.iinc 2 1, 3, 2, 1, [0], g_0), (.goto (-12), 3, 1, 0, [], g_0)]
def bk_J_fill_2 : List En := [(.return_, 1, 0, 0, [], g_0)]
def cd_J_fill : Cd := [(0, bk_J_fill_0), (5, bk_J_fill_1), (20, bk_J_fill_2), (21, [])]
def Y_J_fill : Mth := (g_J_fill, "java/util/Arrays", cd_J_fill)
set_option maxRecDepth 20000 in
theorem ok_J_fill : okM Y_J_fill = true := by decide +kernel
theorem en_J_fill {d : Nat} {u : Mem} {Q : Option MV → Mem → Prop} (as : List MV) (hc : cats as ≤ 4) (h : RunB d Y_J_fill 0 (argL as 4) [] u Q) : OKm d g_J_fill as u Q := OKm.of (Y := Y_J_fill) ok_J_fill hc h
theorem rb_J_fill_0 {d : Nat} {L : List (Option MV)} {st : List MV} {u : Mem} {Q : Option MV → Mem → Prop} (h : go d Y_J_fill Q bk_J_fill_0 0 L st u) : RunB (d + 1) Y_J_fill 0 L st u Q := run_go ok_J_fill (by decide) h
theorem rb_J_fill_1 {d : Nat} {L : List (Option MV)} {st : List MV} {u : Mem} {Q : Option MV → Mem → Prop} (h : go d Y_J_fill Q bk_J_fill_1 1 L st u) : RunB (d + 1) Y_J_fill 1 L st u Q := run_go ok_J_fill (by decide) h
theorem rb_J_fill_2 {d : Nat} {L : List (Option MV)} {st : List MV} {u : Mem} {Q : Option MV → Mem → Prop} (h : go d Y_J_fill Q bk_J_fill_2 2 L st u) : RunB (d + 1) Y_J_fill 2 L st u Q := run_go ok_J_fill (by decide) h
end
section
def capT (t : Nat) : Nat := if t = 0 then 79 else if t = 1 then 20 else 6
theorem NI_0 : NI 0 = 8 := rfl
theorem NI_1 : NI 1 = 12 := rfl
theorem NI_2 : NI 2 = 1 := rfl
theorem NI_3 : NI 3 = 4 := rfl
theorem NI_4 : NI 4 = 1 := rfl
theorem NI_5 : NI 5 = 2 := rfl
theorem NI_6 : NI 6 = 3 := rfl
theorem NI_7 : NI 7 = 1 := rfl
theorem NI_8 : NI 8 = 1 := rfl
theorem NI_9 : NI 9 = 8 := rfl
theorem NI_10 : NI 10 = 12 := rfl
theorem NI_11 : NI 11 = 12 := rfl
theorem NI_12 : NI 12 = 12 := rfl
theorem NI_13 : NI 13 = 1 := rfl
theorem NI_14 : NI 14 = 1 := rfl
theorem NI_15 : NI 15 = 1 := rfl
theorem NI_16 : NI 16 = 1 := rfl
theorem NI_17 : NI 17 = 1 := rfl
theorem NI_18 : NI 18 = 4 := rfl
theorem NI_19 : NI 19 = 1 := rfl
theorem NI_20 : NI 20 = 1 := rfl
theorem NI_21 : NI 21 = 1 := rfl
theorem NI_22 : NI 22 = 2 := rfl
theorem NI_23 : NI 23 = 3 := rfl
theorem NI_24 : NI 24 = 1 := rfl
theorem NI_25 : NI 25 = 1 := rfl
theorem NI_26 : NI 26 = 1 := rfl
theorem NI_27 : NI 27 = 1 := rfl
theorem NI_28 : NI 28 = 1 := rfl
theorem NI_29 : NI 29 = 1 := rfl
theorem NI_30 : NI 30 = 1 := rfl
theorem NI_31 : NI 31 = 1 := rfl
theorem NI_32 : NI 32 = 1 := rfl
theorem NI_33 : NI 33 = 1 := rfl
theorem NI_34 : NI 34 = 1 := rfl
theorem NI_35 : NI 35 = 1 := rfl
theorem NI_36 : NI 36 = 1 := rfl
theorem NI_37 : NI 37 = 1 := rfl
theorem NI_38 : NI 38 = 1 := rfl
theorem NI_39 : NI 39 = 1 := rfl
theorem NI_40 : NI 40 = 1 := rfl
theorem NI_41 : NI 41 = 1 := rfl
theorem NI_42 : NI 42 = 1 := rfl
theorem NI_43 : NI 43 = 1 := rfl
theorem NI_44 : NI 44 = 1 := rfl
theorem NI_45 : NI 45 = 1 := rfl
theorem NI_46 : NI 46 = 1 := rfl
theorem NI_47 : NI 47 = 1 := rfl
theorem NI_48 : NI 48 = 1 := rfl
theorem ia_9 : ia 9 = true := rfl
theorem ln_9 {i : Nat} : ln 9 i = 4 := rfl
theorem al_9 {i : Nat} : alen 9 i = some (4) := rfl
theorem ia_10 : ia 10 = true := rfl
theorem ln_10 {i : Nat} : ln 10 i = 6 := rfl
theorem al_10 {i : Nat} : alen 10 i = some (6) := rfl
theorem ia_11 : ia 11 = true := rfl
theorem ln_11 {i : Nat} : ln 11 i = 48 := rfl
theorem al_11 {i : Nat} : alen 11 i = some (48) := rfl
theorem ia_12 : ia 12 = true := rfl
theorem ln_12 {i : Nat} : ln 12 i = 48 := rfl
theorem al_12 {i : Nat} : alen 12 i = some (48) := rfl
theorem ra_13 : ra 13 = some (0, 0, 8, 5) := rfl
theorem al_13 {i : Nat} : alen 13 i = some 8 := rfl
theorem ia_14 : ia 14 = true := rfl
theorem ln_14 {i : Nat} : ln 14 i = 20 := rfl
theorem al_14 {i : Nat} : alen 14 i = some (20) := rfl
theorem ia_15 : ia 15 = true := rfl
theorem ln_15 {i : Nat} : ln 15 i = 6 := rfl
theorem al_15 {i : Nat} : alen 15 i = some (6) := rfl
theorem ia_16 : ia 16 = true := rfl
theorem ln_16 {i : Nat} : ln 16 i = 10 := rfl
theorem al_16 {i : Nat} : alen 16 i = some (10) := rfl
theorem ia_17 : ia 17 = true := rfl
theorem ln_17 {i : Nat} : ln 17 i = 10 := rfl
theorem al_17 {i : Nat} : alen 17 i = some (10) := rfl
theorem ia_18 : ia 18 = true := rfl
theorem ln_18 {i : Nat} : ln 18 i = 60 := rfl
theorem al_18 {i : Nat} : alen 18 i = some (60) := rfl
theorem ia_19 : ia 19 = true := rfl
theorem ln_19 {i : Nat} : ln 19 i = 8 := rfl
theorem al_19 {i : Nat} : alen 19 i = some (8) := rfl
theorem ia_20 : ia 20 = true := rfl
theorem ln_20 {i : Nat} : ln 20 i = 8 := rfl
theorem al_20 {i : Nat} : alen 20 i = some (8) := rfl
theorem ia_21 : ia 21 = true := rfl
theorem ln_21 {i : Nat} : ln 21 i = 8 := rfl
theorem al_21 {i : Nat} : alen 21 i = some (8) := rfl
theorem ia_22 : ia 22 = true := rfl
theorem ln_22 {i : Nat} : ln 22 i = 720 := rfl
theorem al_22 {i : Nat} : alen 22 i = some (720) := rfl
theorem ia_23 : ia 23 = true := rfl
theorem ln_23 {i : Nat} : ln 23 i = capT i := rfl
theorem al_23 {i : Nat} : alen 23 i = some (capT i) := rfl
theorem ra_24 : ra 24 = some (6, 0, 3, 2) := rfl
theorem al_24 {i : Nat} : alen 24 i = some 3 := rfl
theorem ra_25 : ra 25 = some (1, 2, 10, 3) := rfl
theorem al_25 {i : Nat} : alen 25 i = some 10 := rfl
theorem ra_26 : ra 26 = some (3, 0, 4, 4) := rfl
theorem al_26 {i : Nat} : alen 26 i = some 4 := rfl
theorem ia_27 : ia 27 = true := rfl
theorem ln_27 {i : Nat} : ln 27 i = 20 := rfl
theorem al_27 {i : Nat} : alen 27 i = some (20) := rfl
theorem ia_28 : ia 28 = true := rfl
theorem ln_28 {i : Nat} : ln 28 i = 54 := rfl
theorem al_28 {i : Nat} : alen 28 i = some (54) := rfl
theorem ia_29 : ia 29 = true := rfl
theorem ln_29 {i : Nat} : ln 29 i = 3 := rfl
theorem al_29 {i : Nat} : alen 29 i = some (3) := rfl
theorem al_30 {i : Nat} : alen 30 i = some 2 := rfl
theorem ia_31 : ia 31 = true := rfl
theorem ln_31 {i : Nat} : ln 31 i = 4 := rfl
theorem al_31 {i : Nat} : alen 31 i = some (4) := rfl
theorem ia_32 : ia 32 = true := rfl
theorem ln_32 {i : Nat} : ln 32 i = 4 := rfl
theorem al_32 {i : Nat} : alen 32 i = some (4) := rfl
theorem ia_33 : ia 33 = true := rfl
theorem ln_33 {i : Nat} : ln 33 i = 240 := rfl
theorem al_33 {i : Nat} : alen 33 i = some (240) := rfl
theorem ia_34 : ia 34 = true := rfl
theorem ln_34 {i : Nat} : ln 34 i = 60 := rfl
theorem al_34 {i : Nat} : alen 34 i = some (60) := rfl
theorem ia_35 : ia 35 = true := rfl
theorem ln_35 {i : Nat} : ln 35 i = 240 := rfl
theorem al_35 {i : Nat} : alen 35 i = some (240) := rfl
theorem ia_36 : ia 36 = true := rfl
theorem ln_36 {i : Nat} : ln 36 i = 3 := rfl
theorem al_36 {i : Nat} : alen 36 i = some (3) := rfl
theorem ia_37 : ia 37 = true := rfl
theorem ln_37 {i : Nat} : ln 37 i = 40 := rfl
theorem al_37 {i : Nat} : alen 37 i = some (40) := rfl
theorem ia_38 : ia 38 = true := rfl
theorem ln_38 {i : Nat} : ln 38 i = 32 := rfl
theorem al_38 {i : Nat} : alen 38 i = some (32) := rfl
theorem ia_39 : ia 39 = true := rfl
theorem ln_39 {i : Nat} : ln 39 i = 20 := rfl
theorem al_39 {i : Nat} : alen 39 i = some (20) := rfl
theorem ia_40 : ia 40 = true := rfl
theorem ln_40 {i : Nat} : ln 40 i = 6 := rfl
theorem al_40 {i : Nat} : alen 40 i = some (6) := rfl
theorem ia_41 : ia 41 = true := rfl
theorem ln_41 {i : Nat} : ln 41 i = 16 := rfl
theorem al_41 {i : Nat} : alen 41 i = some (16) := rfl
theorem ia_42 : ia 42 = true := rfl
theorem ln_42 {i : Nat} : ln 42 i = 6 := rfl
theorem al_42 {i : Nat} : alen 42 i = some (6) := rfl
theorem ia_43 : ia 43 = true := rfl
theorem ln_43 {i : Nat} : ln 43 i = 48 := rfl
theorem al_43 {i : Nat} : alen 43 i = some (48) := rfl
theorem ia_44 : ia 44 = true := rfl
theorem ln_44 {i : Nat} : ln 44 i = 48 := rfl
theorem al_44 {i : Nat} : alen 44 i = some (48) := rfl
theorem ia_45 : ia 45 = true := rfl
theorem ln_45 {i : Nat} : ln 45 i = 720 := rfl
theorem al_45 {i : Nat} : alen 45 i = some (720) := rfl
theorem ia_46 : ia 46 = true := rfl
theorem ln_46 {i : Nat} : ln 46 i = 24 := rfl
theorem al_46 {i : Nat} : alen 46 i = some (24) := rfl
theorem ia_47 : ia 47 = true := rfl
theorem ln_47 {i : Nat} : ln 47 i = 54 := rfl
theorem al_47 {i : Nat} : alen 47 i = some (54) := rfl
theorem ia_48 : ia 48 = true := rfl
theorem ln_48 {i : Nat} : ln 48 i = 20 := rfl
theorem al_48 {i : Nat} : alen 48 i = some (20) := rfl
theorem fm_0_0 {u : Mem} {i : Nat} : fm u 0 i 0 = .inr (.inr (9, i)) := rfl
theorem fm_0_1 {u : Mem} {i : Nat} : fm u 0 i 1 = .inl (rd u 0 i 1) := rfl
theorem fk_0_1 : fk 0 1 = none := rfl
theorem iz_0_1 : isZ 0 1 = false := rfl
theorem fm_0_2 {u : Mem} {i : Nat} : fm u 0 i 2 = .inl (rd u 0 i 2) := rfl
theorem fk_0_2 : fk 0 2 = none := rfl
theorem iz_0_2 : isZ 0 2 = false := rfl
theorem fm_0_3 {u : Mem} {i : Nat} : fm u 0 i 3 = .inl (rd u 0 i 3) := rfl
theorem fk_0_3 : fk 0 3 = none := rfl
theorem iz_0_3 : isZ 0 3 = false := rfl
theorem fm_0_4 {u : Mem} {i : Nat} : fm u 0 i 4 = .inl (rd u 0 i 4) := rfl
theorem fk_0_4 : fk 0 4 = none := rfl
theorem iz_0_4 : isZ 0 4 = false := rfl
theorem fm_0_5 {u : Mem} {i : Nat} : fm u 0 i 5 = .inl (rd u 0 i 5) := rfl
theorem fk_0_5 : fk 0 5 = none := rfl
theorem iz_0_5 : isZ 0 5 = false := rfl
theorem fm_1_0 {u : Mem} {i : Nat} : fm u 1 i 0 = .inr (.inr (10, i)) := rfl
theorem fm_1_1 {u : Mem} {i : Nat} : fm u 1 i 1 = .inr (.inr (11, i)) := rfl
theorem fm_1_2 {u : Mem} {i : Nat} : fm u 1 i 2 = .inr (.inr (12, i)) := rfl
theorem fm_2_0 {u : Mem} {i : Nat} : fm u 2 i 0 = .inr (.inr (13, 0)) := rfl
theorem fm_2_1 {u : Mem} {i : Nat} : fm u 2 i 1 = .inr (.inr (14, 0)) := rfl
theorem fm_2_2 {u : Mem} {i : Nat} : fm u 2 i 2 = .inr (.inr (15, 0)) := rfl
theorem fm_2_3 {u : Mem} {i : Nat} : fm u 2 i 3 = .inr (.inr (16, 0)) := rfl
theorem fm_2_4 {u : Mem} {i : Nat} : fm u 2 i 4 = .inr (.inr (17, 0)) := rfl
theorem fm_2_5 {u : Mem} {i : Nat} : fm u 2 i 5 = .inl (rd u 2 i 5) := rfl
theorem fk_2_5 : fk 2 5 = none := rfl
theorem iz_2_5 : isZ 2 5 = false := rfl
theorem fm_2_6 {u : Mem} {i : Nat} : fm u 2 i 6 = .inl (rd u 2 i 6) := rfl
theorem fk_2_6 : fk 2 6 = none := rfl
theorem iz_2_6 : isZ 2 6 = false := rfl
theorem fm_2_7 {u : Mem} {i : Nat} : fm u 2 i 7 = .inl (rd u 2 i 7) := rfl
theorem fk_2_7 : fk 2 7 = none := rfl
theorem iz_2_7 : isZ 2 7 = false := rfl
theorem fm_2_8 {u : Mem} {i : Nat} : fm u 2 i 8 = .inl (rd u 2 i 8) := rfl
theorem fk_2_8 : fk 2 8 = none := rfl
theorem iz_2_8 : isZ 2 8 = false := rfl
theorem fm_2_9 {u : Mem} {i : Nat} : fm u 2 i 9 = .inl (rd u 2 i 9) := rfl
theorem fk_2_9 : fk 2 9 = none := rfl
theorem iz_2_9 : isZ 2 9 = false := rfl
theorem fm_3_0 {u : Mem} {i : Nat} : fm u 3 i 0 = .inr (.inr (18, i)) := rfl
theorem fm_3_1 {u : Mem} {i : Nat} : fm u 3 i 1 = .inl (rd u 3 i 1) := rfl
theorem fk_3_1 : fk 3 1 = none := rfl
theorem iz_3_1 : isZ 3 1 = true := rfl
theorem fm_3_2 {u : Mem} {i : Nat} : fm u 3 i 2 = .inl (rd u 3 i 2) := rfl
theorem fk_3_2 : fk 3 2 = none := rfl
theorem iz_3_2 : isZ 3 2 = false := rfl
theorem fm_3_3 {u : Mem} {i : Nat} : fm u 3 i 3 = .inl (rd u 3 i 3) := rfl
theorem fk_3_3 : fk 3 3 = none := rfl
theorem iz_3_3 : isZ 3 3 = false := rfl
theorem fm_4_0 {u : Mem} {i : Nat} : fm u 4 i 0 = .inr (.inr (19, 0)) := rfl
theorem fm_4_1 {u : Mem} {i : Nat} : fm u 4 i 1 = .inr (.inr (20, 0)) := rfl
theorem fm_4_2 {u : Mem} {i : Nat} : fm u 4 i 2 = .inr (.inr (21, 0)) := rfl
theorem fm_4_3 {u : Mem} {i : Nat} : fm u 4 i 3 = .inl (rd u 4 i 3) := rfl
theorem fk_4_3 : fk 4 3 = none := rfl
theorem iz_4_3 : isZ 4 3 = false := rfl
theorem fm_5_0 {u : Mem} {i : Nat} : fm u 5 i 0 = .inr (.inr (2, 0)) := rfl
theorem fm_5_1 {u : Mem} {i : Nat} : fm u 5 i 1 = .inr (.inr (1, i)) := rfl
theorem fm_5_2 {u : Mem} {i : Nat} : fm u 5 i 2 = .inr (.inr (22, i)) := rfl
theorem fm_6_0 {u : Mem} {i : Nat} : fm u 6 i 0 = .inr (.inr (23, i)) := rfl
theorem fm_6_1 {u : Mem} {i : Nat} : fm u 6 i 1 = .inl (rd u 6 i 1) := rfl
theorem fk_6_1 : fk 6 1 = none := rfl
theorem iz_6_1 : isZ 6 1 = false := rfl
theorem fm_6_2 {u : Mem} {i : Nat} : fm u 6 i 2 = .inl (rd u 6 i 2) := rfl
theorem fk_6_2 : fk 6 2 = none := rfl
theorem iz_6_2 : isZ 6 2 = false := rfl
theorem fm_7_0 {u : Mem} {i : Nat} : fm u 7 i 0 = .inr (.inr (24, 0)) := rfl
theorem fm_7_1 {u : Mem} {i : Nat} : fm u 7 i 1 = .inr (.inr (2, 0)) := rfl
theorem fm_7_2 {u : Mem} {i : Nat} : fm u 7 i 2 = .inr (.inr (5, 0)) := rfl
theorem fm_7_3 {u : Mem} {i : Nat} : fm u 7 i 3 = .inr (.inr (5, 1)) := rfl
theorem fm_7_4 {u : Mem} {i : Nat} : fm u 7 i 4 = .inr (.inr (25, 0)) := rfl
theorem fm_7_5 {u : Mem} {i : Nat} : fm u 7 i 5 = .inr (.inr (4, 0)) := rfl
theorem fm_7_6 {u : Mem} {i : Nat} : fm u 7 i 6 = .inr (.inr (26, 0)) := rfl
theorem fm_7_7 {u : Mem} {i : Nat} : fm u 7 i 7 = .inr (.inr (27, 0)) := rfl
theorem fm_7_8 {u : Mem} {i : Nat} : fm u 7 i 8 = .inr (.inr (28, 0)) := rfl
theorem fm_7_9 {u : Mem} {i : Nat} : fm u 7 i 9 = .inr (.inr (29, 0)) := rfl
theorem fm_7_10 {u : Mem} {i : Nat} : fm u 7 i 10 = .inr (.inr (30, 0)) := rfl
theorem fm_7_11 {u : Mem} {i : Nat} : fm u 7 i 11 = .inl (rd u 7 i 11) := rfl
theorem fk_7_11 : fk 7 11 = none := rfl
theorem iz_7_11 : isZ 7 11 = true := rfl
theorem fm_7_12 {u : Mem} {i : Nat} : fm u 7 i 12 = .inl (rd u 7 i 12) := rfl
theorem fk_7_12 : fk 7 12 = none := rfl
theorem iz_7_12 : isZ 7 12 = false := rfl
theorem fm_8_0 {u : Mem} {i : Nat} : fm u 8 i 0 = .inr (.inr (31, 0)) := rfl
theorem fm_8_1 {u : Mem} {i : Nat} : fm u 8 i 1 = .inr (.inr (32, 0)) := rfl
theorem fm_8_2 {u : Mem} {i : Nat} : fm u 8 i 2 = .inr (.inr (33, 0)) := rfl
theorem fm_8_3 {u : Mem} {i : Nat} : fm u 8 i 3 = .inr (.inr (34, 0)) := rfl
theorem fm_8_4 {u : Mem} {i : Nat} : fm u 8 i 4 = .inl (rd u 8 i 4) := rfl
theorem fk_8_4 : fk 8 4 = none := rfl
theorem iz_8_4 : isZ 8 4 = false := rfl
theorem fm_8_5 {u : Mem} {i : Nat} : fm u 8 i 5 = .inr (.inr (35, 0)) := rfl
theorem fm_8_6 {u : Mem} {i : Nat} : fm u 8 i 6 = .inr (.inr (36, 0)) := rfl
theorem fm_8_7 {u : Mem} {i : Nat} : fm u 8 i 7 = .inl (rd u 8 i 7) := rfl
theorem fk_8_7 : fk 8 7 = none := rfl
theorem iz_8_7 : isZ 8 7 = false := rfl
theorem fm_8_8 {u : Mem} {i : Nat} : fm u 8 i 8 = .inr (.inr (37, 0)) := rfl
theorem fm_8_9 {u : Mem} {i : Nat} : fm u 8 i 9 = .inr (.inr (38, 0)) := rfl
theorem fm_8_10 {u : Mem} {i : Nat} : fm u 8 i 10 = .inl (rd u 8 i 10) := rfl
theorem fk_8_10 : fk 8 10 = none := rfl
theorem iz_8_10 : isZ 8 10 = false := rfl
theorem fm_8_11 {u : Mem} {i : Nat} : fm u 8 i 11 = .inr (.inr (39, 0)) := rfl
theorem fm_8_12 {u : Mem} {i : Nat} : fm u 8 i 12 = .inr (.inr (40, 0)) := rfl
theorem fm_8_13 {u : Mem} {i : Nat} : fm u 8 i 13 = .inl (rd u 8 i 13) := rfl
theorem fk_8_13 : fk 8 13 = none := rfl
theorem iz_8_13 : isZ 8 13 = false := rfl
theorem fm_8_14 {u : Mem} {i : Nat} : fm u 8 i 14 = .inr (.inr (41, 0)) := rfl
theorem fm_8_15 {u : Mem} {i : Nat} : fm u 8 i 15 = .inl (rd u 8 i 15) := rfl
theorem fk_8_15 : fk 8 15 = none := rfl
theorem iz_8_15 : isZ 8 15 = false := rfl
theorem fm_8_16 {u : Mem} {i : Nat} : fm u 8 i 16 = .inl (rd u 8 i 16) := rfl
theorem fk_8_16 : fk 8 16 = none := rfl
theorem iz_8_16 : isZ 8 16 = false := rfl
theorem fm_8_17 {u : Mem} {i : Nat} : fm u 8 i 17 = .inl (rd u 8 i 17) := rfl
theorem fk_8_17 : fk 8 17 = none := rfl
theorem iz_8_17 : isZ 8 17 = false := rfl
theorem fm_8_18 {u : Mem} {i : Nat} : fm u 8 i 18 = .inl (rd u 8 i 18) := rfl
theorem fk_8_18 : fk 8 18 = none := rfl
theorem iz_8_18 : isZ 8 18 = false := rfl
theorem fm_8_19 {u : Mem} {i : Nat} : fm u 8 i 19 = .inr (.inr (42, 0)) := rfl
theorem fm_8_20 {u : Mem} {i : Nat} : fm u 8 i 20 = .inr (.inr (43, 0)) := rfl
theorem fm_8_21 {u : Mem} {i : Nat} : fm u 8 i 21 = .inr (.inr (44, 0)) := rfl
theorem fm_8_22 {u : Mem} {i : Nat} : fm u 8 i 22 = .inr (.inr (45, 0)) := rfl
theorem fm_8_23 {u : Mem} {i : Nat} : fm u 8 i 23 = .inl (rd u 8 i 23) := rfl
theorem fk_8_23 : fk 8 23 = none := rfl
theorem iz_8_23 : isZ 8 23 = false := rfl
theorem fm_8_24 {u : Mem} {i : Nat} : fm u 8 i 24 = .inr (.inr (46, 0)) := rfl
theorem fm_8_25 {u : Mem} {i : Nat} : fm u 8 i 25 = .inr (.inr (47, 0)) := rfl
theorem fm_8_26 {u : Mem} {i : Nat} : fm u 8 i 26 = .inr (.inr (48, 0)) := rfl
theorem fm_8_27 {u : Mem} {i : Nat} : fm u 8 i 27 = .inl (rd u 8 i 27) := rfl
theorem fk_8_27 : fk 8 27 = none := rfl
theorem iz_8_27 : isZ 8 27 = false := rfl
end
section
theorem rd_wr (u : Mem) (c i j : Nat) (v : Int32) (c' i' j' : Nat) : rd (wr u c i j v) c' i' j' = if c' = c ∧ i' = i ∧ j' = j then v else rd u c' i' j' := rfl
theorem rd_wrL (u : Mem) (j : Nat) (v : Int64) (c i k : Nat) : rd (wrL u j v) c i k = rd u c i k := rfl
theorem rdL_wr (u : Mem) (c i j k : Nat) (v : Int32) : rdL (wr u c i j v) k = rdL u k := rfl
theorem rdL_wrL (u : Mem) (j k : Nat) (v : Int64) : rdL (wrL u j v) k = if k = j then v else rdL u k := rfl
theorem rd_cpy (u : Mem) (c i c' i' sp dp n a b k : Nat) : rd (cpy u c i c' i' sp dp n) a b k = if a = c' ∧ b = i' then (if dp ≤ k ∧ k < dp + n then rd u c i (sp + (k - dp)) else rd u c' i' k) else rd u a b k := by
  unfold rd cpy va_cpy
  by_cases h : a = c' ∧ b = i'
  · simp only [h, and_self, if_true]
  · simp only [h, if_false]
/-- all but F is as it was -/
def Sm (F : Nat → Nat → Nat → Prop) (u v : Mem) : Prop := (∀ c i j, ¬ F c i j → rd v c i j = rd u c i j) ∧ ∀ j, rdL v j = rdL u j
theorem Sm.rf {F : Nat → Nat → Nat → Prop} {u : Mem} : Sm F u u := ⟨fun _ _ _ _ => rfl, fun _ => rfl⟩
theorem Sm.tr {F : Nat → Nat → Nat → Prop} {u v w : Mem} (h : Sm F u v) (k : Sm F v w) : Sm F u w := ⟨fun c i j hn => (k.1 c i j hn).trans (h.1 c i j hn), fun j => (k.2 j).trans (h.2 j)⟩
theorem Sm.wk {F G : Nat → Nat → Nat → Prop} {u v : Mem} (h : Sm F u v) (hf : ∀ c i j, F c i j → G c i j) : Sm G u v := ⟨fun c i j hn => h.1 c i j fun z => hn (hf c i j z), h.2⟩
theorem Sm.wr {F : Nat → Nat → Nat → Prop} {u v : Mem} (h : Sm F u v) {c i j : Nat} (x : Int32) (hf : F c i j) : Sm F u (wr v c i j x) := by
  refine ⟨fun a b k hn => ?_, fun k => h.2 k⟩
  rw [rd_wr, if_neg, h.1 a b k hn]
  rintro ⟨rfl, rfl, rfl⟩
  exact hn hf
def b01 (b : Bool) : Int32 := if b then nI 1 else nI 0
theorem vp_nI {k n : Nat} (hk : k < 2 ^ 31) : vp_in (nI k) n ↔ k < n := by
  rw [vp_in_iff, nI_toInt hk]
  omega
theorem nI_lt0 {k : Nat} (hk : k < 2 ^ 31) : (nI k < 0) ↔ False := iff_false_intro (nI_pos hk)
theorem nI_ge0 {k : Nat} (hk : k < 2 ^ 31) : (0 ≤ nI k) ↔ True := iff_true_intro (nI_pos' hk)
theorem nI_eq0 {k : Nat} (hk : k < 2 ^ 31) : (nI k = 0) ↔ k = 0 := nI_eq (b := 0) hk (by decide)
theorem nI_gt0 {k : Nat} (hk : k < 2 ^ 31) : (0 < nI k) ↔ 0 < k := nI_ltI (a := 0) (by decide) hk
theorem nI_le0 {k : Nat} (hk : k < 2 ^ 31) : (nI k ≤ 0) ↔ k = 0 := (nI_leI (b := 0) hk (by decide)).trans (by omega)
theorem neg1_toInt : (-nI 1).toInt = -1 := by decide
theorem nI_neg1 {k : Nat} (hk : k < 2 ^ 31) : (nI k = -nI 1) ↔ False := by
  refine iff_false_intro fun h => ?_
  have h1 := congrArg Int32.toInt h
  rw [nI_toInt hk, neg1_toInt] at h1
  omega
theorem neg1_nI {k : Nat} (hk : k < 2 ^ 31) : (-nI 1 = nI k) ↔ False := by
  rw [eq_comm]; exact nI_neg1 hk
theorem z10 : (nI 1 = 0) = False := by decide
theorem z01 : (nI 0 = 0) = True := by decide
theorem nz1 : (nI 1 = nI 0) = False := by decide
theorem nz0 : (nI 0 = nI 1) = False := by decide
theorem cnt0 {a : Nat} : (a + 0) = a := rfl
theorem zm0 : (-nI 1 = 0) = False := by decide
theorem i_of {x : Int32} {n : Nat} (hn : n < 2 ^ 31) (h0 : ¬ x < 0) (h1 : ¬ nI n ≤ x) : ∃ k, k < n ∧ x = nI k := by
  obtain ⟨k, hk, rfl⟩ := nI_of h0
  rw [nI_leI hn hk] at h1
  exact ⟨k, by omega, rfl⟩
theorem c_W_isBelow {d : Nat} {x y : Int32} {u : Mem} {Q : Option MV → Mem → Prop} (h1 : ¬ x < 0 → ¬ y ≤ x → Q (some (.inl (nI 1))) u) (h0 : x < 0 ∨ y ≤ x → Q (some (.inl (nI 0))) u) : OKm (d + 1) g_W_isBelow [.inl x, .inl y] u Q := by
  refine en_W_isBelow _ (Nat.le_of_ble_eq_true rfl) (rb_W_isBelow_0 ?_)
  simp only [bk_W_isBelow_0, gr_iloadn, gr_ifCond_lt, gr_ificmp_ge, gr_iconst, gr_goto, gr_ireturn, gr_nil, pI_c, pR_c, oI_c, oR_c, lg_i, lg_l, lg_r, lg_n, kI_p, kI_m, lk_0, lk_s, ar_n, ar_c, if_true, if_false, List.replicate, Nat.reduceAdd, Nat.reduceSub, Nat.reduceLeDiff, Nat.reduceEqDiff, Nat.reduceLT, reduceIte, true_and, and_true, true_implies, false_implies, implies_true, eq_self, not_true_eq_false, not_false_eq_true, Bool.false_eq_true, reduceCtorEq, forall_const, List.headD_cons, Nat.zero_add, true_or, or_true, ne_eq, false_and, and_false, false_or, or_false, Nat.reduceBEq, Bool.false_and, Bool.and_false, Bool.or_false, Bool.false_or, Bool.and_self, Bool.true_and, Bool.and_true, Bool.or_self, z10, z01, zm0, nz1, nz0, cnt0]
  repeat' first | with_reducible intro _ | with_reducible apply And.intro | (refine rb_W_isBelow_1 ?_; simp only [bk_W_isBelow_1, gr_iloadn, gr_ifCond_lt, gr_ificmp_ge, gr_iconst, gr_goto, gr_ireturn, gr_nil, pI_c, pR_c, oI_c, oR_c, lg_i, lg_l, lg_r, lg_n, kI_p, kI_m, lk_0, lk_s, ar_n, ar_c, if_true, if_false, List.replicate, Nat.reduceAdd, Nat.reduceSub, Nat.reduceLeDiff, Nat.reduceEqDiff, Nat.reduceLT, reduceIte, true_and, and_true, true_implies, false_implies, implies_true, eq_self, not_true_eq_false, not_false_eq_true, Bool.false_eq_true, reduceCtorEq, forall_const, List.headD_cons, Nat.zero_add, true_or, or_true, ne_eq, false_and, and_false, false_or, or_false, Nat.reduceBEq, Bool.false_and, Bool.and_false, Bool.or_false, Bool.false_or, Bool.and_self, Bool.true_and, Bool.and_true, Bool.or_self, z10, z01, zm0, nz1, nz0, cnt0]) | (refine rb_W_isBelow_2 ?_; simp only [bk_W_isBelow_2, gr_iloadn, gr_ifCond_lt, gr_ificmp_ge, gr_iconst, gr_goto, gr_ireturn, gr_nil, pI_c, pR_c, oI_c, oR_c, lg_i, lg_l, lg_r, lg_n, kI_p, kI_m, lk_0, lk_s, ar_n, ar_c, if_true, if_false, List.replicate, Nat.reduceAdd, Nat.reduceSub, Nat.reduceLeDiff, Nat.reduceEqDiff, Nat.reduceLT, reduceIte, true_and, and_true, true_implies, false_implies, implies_true, eq_self, not_true_eq_false, not_false_eq_true, Bool.false_eq_true, reduceCtorEq, forall_const, List.headD_cons, Nat.zero_add, true_or, or_true, ne_eq, false_and, and_false, false_or, or_false, Nat.reduceBEq, Bool.false_and, Bool.and_false, Bool.or_false, Bool.false_or, Bool.and_self, Bool.true_and, Bool.and_true, Bool.or_self, z10, z01, zm0, nz1, nz0, cnt0])
  all_goals first | exact h1 ‹_› ‹_› | exact h0 (Or.inl ‹_›) | exact h0 (Or.inr ‹_›)
theorem alen_int {c i : Nat} (h : ia c = true) : alen c i = some (ln c i) := by simp [alen, h]
theorem c_J_fill {d : Nat} {c i : Nat} {v : Int32} {u : Mem} {Q : Option MV → Mem → Prop} (hc : ia c = true) (hi : i < NI c) (hl : ln c i < 2 ^ 31)
    (hq : ∀ w, (∀ j, j < ln c i → rd w c i j = v) → Sm (fun a b _ => a = c ∧ b = i) u w → Q none w) : OKm (d + 1) g_J_fill [.inr (.inr (c, i)), .inl v] u Q := by
  refine en_J_fill _ (Nat.le_of_ble_eq_true rfl) (rb_J_fill_0 ?_)
  simp only [bk_J_fill_0, gr_iload, gr_iloadn, gr_lload, gr_lloadn, gr_aload, gr_aloadn, gr_istore, gr_istoren, gr_lstore, gr_lstoren, gr_astore, gr_astoren, gr_iconst, gr_bipush, gr_sipush, gr_ldc, gr_ldcw, gr_lconst, gr_ldc2w, gr_iadd, gr_isub, gr_imul, gr_idiv, gr_irem, gr_iand, gr_ior, gr_ishl, gr_ishr, gr_iushr, gr_i2l, gr_i2b, gr_i2s, gr_ladd, gr_lsub, gr_lmul, gr_ldiv, gr_lrem, gr_lshl, gr_lcmp, gr_ifCond_eq, gr_ifCond_ne, gr_ifCond_lt, gr_ifCond_ge, gr_ifCond_gt, gr_ifCond_le, gr_ificmp_eq, gr_ificmp_ne, gr_ificmp_lt, gr_ificmp_ge, gr_ificmp_gt, gr_ificmp_le, gr_goto, gr_iinc, gr_dup, gr_dup2, gr_pop, gr_getfield, gr_putfield, gr_iaload, gr_iastore, gr_laload, gr_lastore, gr_aaload, gr_arraylength, gr_tableswitch, gr_invokevirtual, gr_invokestatic, gr_ireturn, gr_lreturn, gr_return, gr_nil, pI_c, pL_c, pR_c, pA_i, pA_r, oI_c, oL_c, oR_c, ps_0, ps_s, pu_n, pu_s, lg_i, lg_l, lg_r, lg_n, kI_p, kI_m, kL_p, kL_m, ct_0, ct_i, ct_l, ct_r, lk_0, lk_s, sk_0, sk_s, clr_0, clr_s, sw_n, sw_c, ar_n, ar_c, tt_and, tt_imp, ff_imp, st1, st2, if_true, if_false, List.replicate, Nat.reduceAdd, Nat.reduceSub, Nat.reduceLeDiff, Nat.reduceEqDiff, Nat.reduceLT, reduceIte, true_and, and_true, true_implies, false_implies, implies_true, eq_self, not_true_eq_false, not_false_eq_true, Bool.false_eq_true, reduceCtorEq, forall_const, List.headD_cons, Nat.zero_add, true_or, or_true, ne_eq, false_and, and_false, false_or, or_false, Nat.reduceBEq, Bool.false_and, Bool.and_false, Bool.or_false, Bool.false_or, Bool.and_self, Bool.true_and, Bool.and_true, Bool.or_self, z10, z01, zm0, hc, hi, alen_int hc]
  have loop : ∀ (n k : Nat) (w : Mem), k + n = ln c i → (∀ j, j < k → rd w c i j = v) → Sm (fun a b _ => a = c ∧ b = i) u w → RunB (d + 1) Y_J_fill 1 [some (.inr (.inr (c, i))), some (.inl v), some (.inl (nI k)), some (.inl (nI (ln c i)))] [] w Q := by
    intro n
    induction n with
    | zero =>
      intro k w hk hw hs
      refine rb_J_fill_1 ?_
      simp only [bk_J_fill_1, gr_iload, gr_iloadn, gr_lload, gr_lloadn, gr_aload, gr_aloadn, gr_istore, gr_istoren, gr_lstore, gr_lstoren, gr_astore, gr_astoren, gr_iconst, gr_bipush, gr_sipush, gr_ldc, gr_ldcw, gr_lconst, gr_ldc2w, gr_iadd, gr_isub, gr_imul, gr_idiv, gr_irem, gr_iand, gr_ior, gr_ishl, gr_ishr, gr_iushr, gr_i2l, gr_i2b, gr_i2s, gr_ladd, gr_lsub, gr_lmul, gr_ldiv, gr_lrem, gr_lshl, gr_lcmp, gr_ifCond_eq, gr_ifCond_ne, gr_ifCond_lt, gr_ifCond_ge, gr_ifCond_gt, gr_ifCond_le, gr_ificmp_eq, gr_ificmp_ne, gr_ificmp_lt, gr_ificmp_ge, gr_ificmp_gt, gr_ificmp_le, gr_goto, gr_iinc, gr_dup, gr_dup2, gr_pop, gr_getfield, gr_putfield, gr_iaload, gr_iastore, gr_laload, gr_lastore, gr_aaload, gr_arraylength, gr_tableswitch, gr_invokevirtual, gr_invokestatic, gr_ireturn, gr_lreturn, gr_return, gr_nil, pI_c, pL_c, pR_c, pA_i, pA_r, oI_c, oL_c, oR_c, ps_0, ps_s, pu_n, pu_s, lg_i, lg_l, lg_r, lg_n, kI_p, kI_m, kL_p, kL_m, ct_0, ct_i, ct_l, ct_r, lk_0, lk_s, sk_0, sk_s, clr_0, clr_s, sw_n, sw_c, ar_n, ar_c, tt_and, tt_imp, ff_imp, st1, st2, if_true, if_false, List.replicate, Nat.reduceAdd, Nat.reduceSub, Nat.reduceLeDiff, Nat.reduceEqDiff, Nat.reduceLT, reduceIte, true_and, and_true, true_implies, false_implies, implies_true, eq_self, not_true_eq_false, not_false_eq_true, Bool.false_eq_true, reduceCtorEq, forall_const, List.headD_cons, Nat.zero_add, true_or, or_true, ne_eq, false_and, and_false, false_or, or_false, Nat.reduceBEq, Bool.false_and, Bool.and_false, Bool.or_false, Bool.false_or, Bool.and_self, Bool.true_and, Bool.and_true, Bool.or_self, z10, z01, zm0]
      refine ⟨fun _ => rb_J_fill_2 ?_, fun h => absurd (nI_le (by omega) (by omega)) h⟩
      simp only [bk_J_fill_2, gr_iload, gr_iloadn, gr_lload, gr_lloadn, gr_aload, gr_aloadn, gr_istore, gr_istoren, gr_lstore, gr_lstoren, gr_astore, gr_astoren, gr_iconst, gr_bipush, gr_sipush, gr_ldc, gr_ldcw, gr_lconst, gr_ldc2w, gr_iadd, gr_isub, gr_imul, gr_idiv, gr_irem, gr_iand, gr_ior, gr_ishl, gr_ishr, gr_iushr, gr_i2l, gr_i2b, gr_i2s, gr_ladd, gr_lsub, gr_lmul, gr_ldiv, gr_lrem, gr_lshl, gr_lcmp, gr_ifCond_eq, gr_ifCond_ne, gr_ifCond_lt, gr_ifCond_ge, gr_ifCond_gt, gr_ifCond_le, gr_ificmp_eq, gr_ificmp_ne, gr_ificmp_lt, gr_ificmp_ge, gr_ificmp_gt, gr_ificmp_le, gr_goto, gr_iinc, gr_dup, gr_dup2, gr_pop, gr_getfield, gr_putfield, gr_iaload, gr_iastore, gr_laload, gr_lastore, gr_aaload, gr_arraylength, gr_tableswitch, gr_invokevirtual, gr_invokestatic, gr_ireturn, gr_lreturn, gr_return, gr_nil, pI_c, pL_c, pR_c, pA_i, pA_r, oI_c, oL_c, oR_c, ps_0, ps_s, pu_n, pu_s, lg_i, lg_l, lg_r, lg_n, kI_p, kI_m, kL_p, kL_m, ct_0, ct_i, ct_l, ct_r, lk_0, lk_s, sk_0, sk_s, clr_0, clr_s, sw_n, sw_c, ar_n, ar_c, tt_and, tt_imp, ff_imp, st1, st2, if_true, if_false, List.replicate, Nat.reduceAdd, Nat.reduceSub, Nat.reduceLeDiff, Nat.reduceEqDiff, Nat.reduceLT, reduceIte, true_and, and_true, true_implies, false_implies, implies_true, eq_self, not_true_eq_false, not_false_eq_true, Bool.false_eq_true, reduceCtorEq, forall_const, List.headD_cons, Nat.zero_add, true_or, or_true, ne_eq, false_and, and_false, false_or, or_false, Nat.reduceBEq, Bool.false_and, Bool.and_false, Bool.or_false, Bool.false_or, Bool.and_self, Bool.true_and, Bool.and_true, Bool.or_self, z10, z01, zm0]
      exact hq w (fun j hj => hw j (by omega)) hs
    | succ n ih =>
      intro k w hk hw hs
      refine rb_J_fill_1 ?_
      simp only [bk_J_fill_1, gr_iload, gr_iloadn, gr_lload, gr_lloadn, gr_aload, gr_aloadn, gr_istore, gr_istoren, gr_lstore, gr_lstoren, gr_astore, gr_astoren, gr_iconst, gr_bipush, gr_sipush, gr_ldc, gr_ldcw, gr_lconst, gr_ldc2w, gr_iadd, gr_isub, gr_imul, gr_idiv, gr_irem, gr_iand, gr_ior, gr_ishl, gr_ishr, gr_iushr, gr_i2l, gr_i2b, gr_i2s, gr_ladd, gr_lsub, gr_lmul, gr_ldiv, gr_lrem, gr_lshl, gr_lcmp, gr_ifCond_eq, gr_ifCond_ne, gr_ifCond_lt, gr_ifCond_ge, gr_ifCond_gt, gr_ifCond_le, gr_ificmp_eq, gr_ificmp_ne, gr_ificmp_lt, gr_ificmp_ge, gr_ificmp_gt, gr_ificmp_le, gr_goto, gr_iinc, gr_dup, gr_dup2, gr_pop, gr_getfield, gr_putfield, gr_iaload, gr_iastore, gr_laload, gr_lastore, gr_aaload, gr_arraylength, gr_tableswitch, gr_invokevirtual, gr_invokestatic, gr_ireturn, gr_lreturn, gr_return, gr_nil, pI_c, pL_c, pR_c, pA_i, pA_r, oI_c, oL_c, oR_c, ps_0, ps_s, pu_n, pu_s, lg_i, lg_l, lg_r, lg_n, kI_p, kI_m, kL_p, kL_m, ct_0, ct_i, ct_l, ct_r, lk_0, lk_s, sk_0, sk_s, clr_0, clr_s, sw_n, sw_c, ar_n, ar_c, tt_and, tt_imp, ff_imp, st1, st2, if_true, if_false, List.replicate, Nat.reduceAdd, Nat.reduceSub, Nat.reduceLeDiff, Nat.reduceEqDiff, Nat.reduceLT, reduceIte, true_and, and_true, true_implies, false_implies, implies_true, eq_self, not_true_eq_false, not_false_eq_true, Bool.false_eq_true, reduceCtorEq, forall_const, List.headD_cons, Nat.zero_add, true_or, or_true, ne_eq, false_and, and_false, false_or, or_false, Nat.reduceBEq, Bool.false_and, Bool.and_false, Bool.or_false, Bool.false_or, Bool.and_self, Bool.true_and, Bool.and_true, Bool.or_self, z10, z01, zm0, hc, hi]
      refine ⟨fun h => absurd h (nI_ge (by omega) (by omega)), fun _ => ⟨vp_in_nI (by omega) (by omega), ?_⟩⟩
      rw [nI_clamp (by omega), nI_add]
      refine ih (k + 1) _ (by omega) (fun j hj => ?_) (hs.wr _ ⟨rfl, rfl⟩)
      rw [rd_wr]
      split
      · rfl
      · exact hw j (by omega)
  exact loop (ln c i) 0 u (by omega) (fun j hj => by omega) Sm.rf
theorem c_W_finding {d : Nat} {n : Int32} {u : Mem} {Q : Option MV → Mem → Prop} (hq : Q (some (.inl (-nI 10 - n))) (wr u 7 0 12 n)) : OKm (d + 1) g_W_finding [.inr (.inr (7, 0)), .inl n] u Q := by
  refine en_W_finding _ (Nat.le_of_ble_eq_true rfl) (rb_W_finding_0 ?_)
  simp only [bk_W_finding_0, gr_aloadn, gr_iloadn, gr_putfield, fk_7_12, iz_7_12, NI_7, gr_bipush, gr_isub, gr_ireturn, gr_nil, pI_c, pR_c, oI_c, oR_c, lg_i, lg_l, lg_r, lg_n, kI_p, kI_m, lk_0, lk_s, ar_n, ar_c, if_true, if_false, List.replicate, Nat.reduceAdd, Nat.reduceSub, Nat.reduceLeDiff, Nat.reduceEqDiff, Nat.reduceLT, reduceIte, true_and, and_true, true_implies, false_implies, implies_true, eq_self, not_true_eq_false, not_false_eq_true, Bool.false_eq_true, reduceCtorEq, forall_const, List.headD_cons, Nat.zero_add, true_or, or_true, ne_eq, false_and, and_false, false_or, or_false, Nat.reduceBEq, Bool.false_and, Bool.and_false, Bool.or_false, Bool.false_or, Bool.and_self, Bool.true_and, Bool.and_true, Bool.or_self, z10, z01, zm0, nz1, nz0, cnt0]
  exact hq
-- texts
theorem capT_le (t : Nat) : capT t ≤ 79 := by unfold capT; split <;> (try split) <;> omega
theorem c_X_isFull {d t z : Nat} {u : Mem} {Q : Option MV → Mem → Prop} (ht : t < 3) (hz : rd u 6 t 1 = nI z) (hz2 : z < 2 ^ 31) (h1 : capT t ≤ z → Q (some (.inl (nI 1))) u) (h0 : z < capT t → Q (some (.inl (nI 0))) u) : OKm (d + 1) g_X_isFull [.inr (.inr (6, t))] u Q := by
  have hc := capT_le t
  refine en_X_isFull _ (Nat.le_of_ble_eq_true rfl) (rb_X_isFull_0 ?_)
  simp only [bk_X_isFull_0, gr_aloadn, gr_getfield, fm_6_1, NI_6, fm_6_0, gr_arraylength, gr_ificmp_lt, gr_iconst, gr_goto, gr_ireturn, NI_23, ia_23, ln_23, al_23, gr_nil, pI_c, pR_c, oI_c, oR_c, lg_i, lg_l, lg_r, lg_n, kI_p, kI_m, lk_0, lk_s, ar_n, ar_c, if_true, if_false, List.replicate, Nat.reduceAdd, Nat.reduceSub, Nat.reduceLeDiff, Nat.reduceEqDiff, Nat.reduceLT, reduceIte, true_and, and_true, true_implies, false_implies, implies_true, eq_self, not_true_eq_false, not_false_eq_true, Bool.false_eq_true, reduceCtorEq, forall_const, List.headD_cons, Nat.zero_add, true_or, or_true, ne_eq, false_and, and_false, false_or, or_false, Nat.reduceBEq, Bool.false_and, Bool.and_false, Bool.or_false, Bool.false_or, Bool.and_self, Bool.true_and, Bool.and_true, Bool.or_self, z10, z01, zm0, nz1, nz0, cnt0, ht, hz]
  simp (disch := omega) only [nI_leI, nI_ltI, nI_eq, nI_add, pk_mul, nI_clamp, vp_nI, nI_lt0, nI_ge0, nI_eq0, nI_gt0, nI_le0, nI_neg1, neg1_nI, Nat.not_le, Nat.not_lt, if_true, if_false, true_and, and_true, true_implies, false_implies, implies_true, not_true_eq_false, not_false_eq_true, reduceIte, false_or, or_false, false_and, and_false, true_or, or_true]
  repeat' first | with_reducible intro _ | with_reducible apply And.intro | (refine rb_X_isFull_1 ?_; simp only [bk_X_isFull_1, gr_aloadn, gr_getfield, fm_6_1, NI_6, fm_6_0, gr_arraylength, gr_ificmp_lt, gr_iconst, gr_goto, gr_ireturn, NI_23, ia_23, ln_23, al_23, gr_nil, pI_c, pR_c, oI_c, oR_c, lg_i, lg_l, lg_r, lg_n, kI_p, kI_m, lk_0, lk_s, ar_n, ar_c, if_true, if_false, List.replicate, Nat.reduceAdd, Nat.reduceSub, Nat.reduceLeDiff, Nat.reduceEqDiff, Nat.reduceLT, reduceIte, true_and, and_true, true_implies, false_implies, implies_true, eq_self, not_true_eq_false, not_false_eq_true, Bool.false_eq_true, reduceCtorEq, forall_const, List.headD_cons, Nat.zero_add, true_or, or_true, ne_eq, false_and, and_false, false_or, or_false, Nat.reduceBEq, Bool.false_and, Bool.and_false, Bool.or_false, Bool.false_or, Bool.and_self, Bool.true_and, Bool.and_true, Bool.or_self, z10, z01, zm0, nz1, nz0, cnt0]) | (refine rb_X_isFull_2 ?_; simp only [bk_X_isFull_2, gr_aloadn, gr_getfield, fm_6_1, NI_6, fm_6_0, gr_arraylength, gr_ificmp_lt, gr_iconst, gr_goto, gr_ireturn, NI_23, ia_23, ln_23, al_23, gr_nil, pI_c, pR_c, oI_c, oR_c, lg_i, lg_l, lg_r, lg_n, kI_p, kI_m, lk_0, lk_s, ar_n, ar_c, if_true, if_false, List.replicate, Nat.reduceAdd, Nat.reduceSub, Nat.reduceLeDiff, Nat.reduceEqDiff, Nat.reduceLT, reduceIte, true_and, and_true, true_implies, false_implies, implies_true, eq_self, not_true_eq_false, not_false_eq_true, Bool.false_eq_true, reduceCtorEq, forall_const, List.headD_cons, Nat.zero_add, true_or, or_true, ne_eq, false_and, and_false, false_or, or_false, Nat.reduceBEq, Bool.false_and, Bool.and_false, Bool.or_false, Bool.false_or, Bool.and_self, Bool.true_and, Bool.and_true, Bool.or_self, z10, z01, zm0, nz1, nz0, cnt0])
  all_goals first | exact h1 ‹_› | exact h0 ‹_›
theorem c_X_push {d t z : Nat} {b : Int32} {u : Mem} {Q : Option MV → Mem → Prop} (ht : t < 3) (hz : rd u 6 t 1 = nI z) (hz2 : z < capT t) (hq : Q none (wr (wr u 23 t z b) 6 t 1 (nI (z + 1)))) : OKm (d + 2) g_X_push [.inr (.inr (6, t)), .inl b] u Q := by
  have hc := capT_le t
  refine en_X_push _ (Nat.le_of_ble_eq_true rfl) (rb_X_push_0 ?_)
  simp only [bk_X_push_0, gr_aloadn, gr_invokevirtual, NI_6, ps_0, ps_s, pu_n, pu_s, ct_0, ct_i, ct_l, ct_r, gr_ifCond_ne, gr_getfield, fm_6_0, fm_6_1, gr_iloadn, gr_iastore, gr_dup, pA_i, pA_r, gr_iconst, gr_iadd, gr_putfield, fk_6_1, iz_6_1, gr_return, NI_23, ia_23, ln_23, al_23, gr_nil, pI_c, pR_c, oI_c, oR_c, lg_i, lg_l, lg_r, lg_n, kI_p, kI_m, lk_0, lk_s, ar_n, ar_c, if_true, if_false, List.replicate, Nat.reduceAdd, Nat.reduceSub, Nat.reduceLeDiff, Nat.reduceEqDiff, Nat.reduceLT, reduceIte, true_and, and_true, true_implies, false_implies, implies_true, eq_self, not_true_eq_false, not_false_eq_true, Bool.false_eq_true, reduceCtorEq, forall_const, List.headD_cons, Nat.zero_add, true_or, or_true, ne_eq, false_and, and_false, false_or, or_false, Nat.reduceBEq, Bool.false_and, Bool.and_false, Bool.or_false, Bool.false_or, Bool.and_self, Bool.true_and, Bool.and_true, Bool.or_self, z10, z01, zm0, nz1, nz0, cnt0, ht, hz]
  refine c_X_isFull ht hz (by omega) (fun h => absurd h (by omega)) (fun _ => ?_)
  simp only [gr_aloadn, gr_invokevirtual, NI_6, ps_0, ps_s, pu_n, pu_s, ct_0, ct_i, ct_l, ct_r, gr_ifCond_ne, gr_getfield, fm_6_0, fm_6_1, gr_iloadn, gr_iastore, gr_dup, pA_i, pA_r, gr_iconst, gr_iadd, gr_putfield, fk_6_1, iz_6_1, gr_return, NI_23, ia_23, ln_23, al_23, gr_nil, pI_c, pR_c, oI_c, oR_c, lg_i, lg_l, lg_r, lg_n, kI_p, kI_m, lk_0, lk_s, ar_n, ar_c, if_true, if_false, List.replicate, Nat.reduceAdd, Nat.reduceSub, Nat.reduceLeDiff, Nat.reduceEqDiff, Nat.reduceLT, reduceIte, true_and, and_true, true_implies, false_implies, implies_true, eq_self, not_true_eq_false, not_false_eq_true, Bool.false_eq_true, reduceCtorEq, forall_const, List.headD_cons, Nat.zero_add, true_or, or_true, ne_eq, false_and, and_false, false_or, or_false, Nat.reduceBEq, Bool.false_and, Bool.and_false, Bool.or_false, Bool.false_or, Bool.and_self, Bool.true_and, Bool.and_true, Bool.or_self, z10, z01, zm0, nz1, nz0, cnt0, ht, hz, rd_wr]
  simp (disch := omega) only [nI_leI, nI_ltI, nI_eq, nI_add, pk_mul, nI_clamp, vp_nI, nI_lt0, nI_ge0, nI_eq0, nI_gt0, nI_le0, nI_neg1, neg1_nI, Nat.not_le, Nat.not_lt, if_true, if_false, true_and, and_true, true_implies, false_implies, implies_true, not_true_eq_false, not_false_eq_true, reduceIte, false_or, or_false, false_and, and_false, true_or, or_true]
  refine ⟨by omega, ?_⟩
  repeat' first | with_reducible intro _ | with_reducible apply And.intro | (refine rb_X_push_1 ?_; simp only [bk_X_push_1, gr_aloadn, gr_invokevirtual, NI_6, ps_0, ps_s, pu_n, pu_s, ct_0, ct_i, ct_l, ct_r, gr_ifCond_ne, gr_getfield, fm_6_0, fm_6_1, gr_iloadn, gr_iastore, gr_dup, pA_i, pA_r, gr_iconst, gr_iadd, gr_putfield, fk_6_1, iz_6_1, gr_return, NI_23, ia_23, ln_23, al_23, gr_nil, pI_c, pR_c, oI_c, oR_c, lg_i, lg_l, lg_r, lg_n, kI_p, kI_m, lk_0, lk_s, ar_n, ar_c, if_true, if_false, List.replicate, Nat.reduceAdd, Nat.reduceSub, Nat.reduceLeDiff, Nat.reduceEqDiff, Nat.reduceLT, reduceIte, true_and, and_true, true_implies, false_implies, implies_true, eq_self, not_true_eq_false, not_false_eq_true, Bool.false_eq_true, reduceCtorEq, forall_const, List.headD_cons, Nat.zero_add, true_or, or_true, ne_eq, false_and, and_false, false_or, or_false, Nat.reduceBEq, Bool.false_and, Bool.and_false, Bool.or_false, Bool.false_or, Bool.and_self, Bool.true_and, Bool.and_true, Bool.or_self, z10, z01, zm0, nz1, nz0, cnt0])
  exact hq
theorem c_X_pop {d t z : Nat} {u : Mem} {Q : Option MV → Mem → Prop} (ht : t < 3) (hz : rd u 6 t 1 = nI (z + 1)) (hz2 : z < 79) (hq : Q none (wr u 6 t 1 (nI z))) : OKm (d + 1) g_X_pop [.inr (.inr (6, t))] u Q := by
  refine en_X_pop _ (Nat.le_of_ble_eq_true rfl) (rb_X_pop_0 ?_)
  simp only [bk_X_pop_0, gr_aloadn, gr_getfield, fm_6_1, NI_6, gr_ifCond_le, gr_dup, pA_i, pA_r, gr_iconst, gr_isub, gr_putfield, fk_6_1, iz_6_1, gr_return, gr_nil, pI_c, pR_c, oI_c, oR_c, lg_i, lg_l, lg_r, lg_n, kI_p, kI_m, lk_0, lk_s, ar_n, ar_c, if_true, if_false, List.replicate, Nat.reduceAdd, Nat.reduceSub, Nat.reduceLeDiff, Nat.reduceEqDiff, Nat.reduceLT, reduceIte, true_and, and_true, true_implies, false_implies, implies_true, eq_self, not_true_eq_false, not_false_eq_true, Bool.false_eq_true, reduceCtorEq, forall_const, List.headD_cons, Nat.zero_add, true_or, or_true, ne_eq, false_and, and_false, false_or, or_false, Nat.reduceBEq, Bool.false_and, Bool.and_false, Bool.or_false, Bool.false_or, Bool.and_self, Bool.true_and, Bool.and_true, Bool.or_self, z10, z01, zm0, nz1, nz0, cnt0, ht, hz]
  simp (disch := omega) only [nI_leI, nI_ltI, nI_eq, nI_add, pk_mul, nI_clamp, vp_nI, nI_lt0, nI_ge0, nI_eq0, nI_gt0, nI_le0, nI_neg1, neg1_nI, Nat.not_le, Nat.not_lt, if_true, if_false, true_and, and_true, true_implies, false_implies, implies_true, not_true_eq_false, not_false_eq_true, reduceIte, false_or, or_false, false_and, and_false, true_or, or_true]
  refine ⟨fun h => by omega, fun _ => ?_⟩
  rw [show nI (z + 1) - nI 1 = nI z from nI_pred z]
  repeat' first | with_reducible intro _ | with_reducible apply And.intro | (refine rb_X_pop_1 ?_; simp only [bk_X_pop_1, gr_aloadn, gr_getfield, fm_6_1, NI_6, gr_ifCond_le, gr_dup, pA_i, pA_r, gr_iconst, gr_isub, gr_putfield, fk_6_1, iz_6_1, gr_return, gr_nil, pI_c, pR_c, oI_c, oR_c, lg_i, lg_l, lg_r, lg_n, kI_p, kI_m, lk_0, lk_s, ar_n, ar_c, if_true, if_false, List.replicate, Nat.reduceAdd, Nat.reduceSub, Nat.reduceLeDiff, Nat.reduceEqDiff, Nat.reduceLT, reduceIte, true_and, and_true, true_implies, false_implies, implies_true, eq_self, not_true_eq_false, not_false_eq_true, Bool.false_eq_true, reduceCtorEq, forall_const, List.headD_cons, Nat.zero_add, true_or, or_true, ne_eq, false_and, and_false, false_or, or_false, Nat.reduceBEq, Bool.false_and, Bool.and_false, Bool.or_false, Bool.false_or, Bool.and_self, Bool.true_and, Bool.and_true, Bool.or_self, z10, z01, zm0, nz1, nz0, cnt0])
  exact hq
theorem c_X_byteAt {d t z k : Nat} {u : Mem} {Q : Option MV → Mem → Prop} (ht : t < 3) (hz : rd u 6 t 1 = nI z) (hk : k < z) (hz2 : z ≤ capT t) (hq : Q (some (.inl (rd u 23 t k))) u) : OKm (d + 2) g_X_byteAt [.inr (.inr (6, t)), .inl (nI k)] u Q := by
  have hc := capT_le t
  refine en_X_byteAt _ (Nat.le_of_ble_eq_true rfl) (rb_X_byteAt_0 ?_)
  simp only [bk_X_byteAt_0, gr_iloadn, gr_aloadn, gr_getfield, fm_6_1, NI_6, gr_invokestatic, ps_0, ps_s, pu_n, pu_s, ct_0, ct_i, ct_l, ct_r, gr_ifCond_eq, fm_6_0, gr_arraylength, gr_ificmp_ge, gr_iaload, gr_goto, gr_iconst, gr_ireturn, NI_23, ia_23, ln_23, al_23, gr_nil, pI_c, pR_c, oI_c, oR_c, lg_i, lg_l, lg_r, lg_n, kI_p, kI_m, lk_0, lk_s, ar_n, ar_c, if_true, if_false, List.replicate, Nat.reduceAdd, Nat.reduceSub, Nat.reduceLeDiff, Nat.reduceEqDiff, Nat.reduceLT, reduceIte, true_and, and_true, true_implies, false_implies, implies_true, eq_self, not_true_eq_false, not_false_eq_true, Bool.false_eq_true, reduceCtorEq, forall_const, List.headD_cons, Nat.zero_add, true_or, or_true, ne_eq, false_and, and_false, false_or, or_false, Nat.reduceBEq, Bool.false_and, Bool.and_false, Bool.or_false, Bool.false_or, Bool.and_self, Bool.true_and, Bool.and_true, Bool.or_self, z10, z01, zm0, nz1, nz0, cnt0, ht, hz]
  refine c_W_isBelow (fun _ _ => ?_) (fun h => ?_)
  · simp only [gr_iloadn, gr_aloadn, gr_getfield, fm_6_1, NI_6, gr_invokestatic, ps_0, ps_s, pu_n, pu_s, ct_0, ct_i, ct_l, ct_r, gr_ifCond_eq, fm_6_0, gr_arraylength, gr_ificmp_ge, gr_iaload, gr_goto, gr_iconst, gr_ireturn, NI_23, ia_23, ln_23, al_23, gr_nil, pI_c, pR_c, oI_c, oR_c, lg_i, lg_l, lg_r, lg_n, kI_p, kI_m, lk_0, lk_s, ar_n, ar_c, if_true, if_false, List.replicate, Nat.reduceAdd, Nat.reduceSub, Nat.reduceLeDiff, Nat.reduceEqDiff, Nat.reduceLT, reduceIte, true_and, and_true, true_implies, false_implies, implies_true, eq_self, not_true_eq_false, not_false_eq_true, Bool.false_eq_true, reduceCtorEq, forall_const, List.headD_cons, Nat.zero_add, true_or, or_true, ne_eq, false_and, and_false, false_or, or_false, Nat.reduceBEq, Bool.false_and, Bool.and_false, Bool.or_false, Bool.false_or, Bool.and_self, Bool.true_and, Bool.and_true, Bool.or_self, z10, z01, zm0, nz1, nz0, cnt0, ht, hz]
    simp (disch := omega) only [nI_leI, nI_ltI, nI_eq, nI_add, pk_mul, nI_clamp, vp_nI, nI_lt0, nI_ge0, nI_eq0, nI_gt0, nI_le0, nI_neg1, neg1_nI, Nat.not_le, Nat.not_lt, if_true, if_false, true_and, and_true, true_implies, false_implies, implies_true, not_true_eq_false, not_false_eq_true, reduceIte, false_or, or_false, false_and, and_false, true_or, or_true]
    refine ⟨fun h => by omega, fun _ => ⟨by omega, ?_⟩⟩
    repeat' first | with_reducible intro _ | with_reducible apply And.intro | (refine rb_X_byteAt_2 ?_; simp only [bk_X_byteAt_2, gr_iloadn, gr_aloadn, gr_getfield, fm_6_1, NI_6, gr_invokestatic, ps_0, ps_s, pu_n, pu_s, ct_0, ct_i, ct_l, ct_r, gr_ifCond_eq, fm_6_0, gr_arraylength, gr_ificmp_ge, gr_iaload, gr_goto, gr_iconst, gr_ireturn, NI_23, ia_23, ln_23, al_23, gr_nil, pI_c, pR_c, oI_c, oR_c, lg_i, lg_l, lg_r, lg_n, kI_p, kI_m, lk_0, lk_s, ar_n, ar_c, if_true, if_false, List.replicate, Nat.reduceAdd, Nat.reduceSub, Nat.reduceLeDiff, Nat.reduceEqDiff, Nat.reduceLT, reduceIte, true_and, and_true, true_implies, false_implies, implies_true, eq_self, not_true_eq_false, not_false_eq_true, Bool.false_eq_true, reduceCtorEq, forall_const, List.headD_cons, Nat.zero_add, true_or, or_true, ne_eq, false_and, and_false, false_or, or_false, Nat.reduceBEq, Bool.false_and, Bool.and_false, Bool.or_false, Bool.false_or, Bool.and_self, Bool.true_and, Bool.and_true, Bool.or_self, z10, z01, zm0, nz1, nz0, cnt0])
    exact hq
  · exfalso
    simp (disch := omega) only [nI_leI, nI_ltI, nI_eq, nI_add, pk_mul, nI_clamp, vp_nI, nI_lt0, nI_ge0, nI_eq0, nI_gt0, nI_le0, nI_neg1, neg1_nI, Nat.not_le, Nat.not_lt, if_true, if_false, true_and, and_true, true_implies, false_implies, implies_true, not_true_eq_false, not_false_eq_true, reduceIte, false_or, or_false, false_and, and_false, true_or, or_true] at h
    omega
-- rows
theorem c_R_begin {d s k : Nat} {f : Int32} {u : Mem} {Q : Option MV → Mem → Prop} (hs : s < 4) (hk : k ≤ 60) (hq : ∀ w, (∀ j, j < 60 → rd w 18 s j = nI 0) → rd w 3 s 1 = nI 0 → rd w 3 s 2 = f → rd w 3 s 3 = nI k → Sm (fun a b _ => (a = 18 ∨ a = 3) ∧ b = s) u w → Q none w) : OKm (d + 2) g_R_begin [.inr (.inr (3, s)), .inl f, .inl (nI k)] u Q := by
  refine en_R_begin _ (Nat.le_of_ble_eq_true rfl) (rb_R_begin_0 ?_)
  simp only [bk_R_begin_0, gr_aloadn, gr_getfield, fm_3_0, NI_3, gr_iconst, gr_invokestatic, ps_0, ps_s, pu_n, pu_s, ct_0, ct_i, ct_l, ct_r, gr_putfield, fk_3_1, iz_3_1, gr_iloadn, fk_3_2, iz_3_2, gr_bipush, fk_3_3, iz_3_3, gr_return, NI_18, ia_18, ln_18, al_18, gr_nil, pI_c, pR_c, oI_c, oR_c, lg_i, lg_l, lg_r, lg_n, kI_p, kI_m, lk_0, lk_s, ar_n, ar_c, if_true, if_false, List.replicate, Nat.reduceAdd, Nat.reduceSub, Nat.reduceLeDiff, Nat.reduceEqDiff, Nat.reduceLT, reduceIte, true_and, and_true, true_implies, false_implies, implies_true, eq_self, not_true_eq_false, not_false_eq_true, Bool.false_eq_true, reduceCtorEq, forall_const, List.headD_cons, Nat.zero_add, true_or, or_true, ne_eq, false_and, and_false, false_or, or_false, Nat.reduceBEq, Bool.false_and, Bool.and_false, Bool.or_false, Bool.false_or, Bool.and_self, Bool.true_and, Bool.and_true, Bool.or_self, z10, z01, zm0, nz1, nz0, cnt0, hs]
  refine c_J_fill rfl hs (by rw [ln_18]; omega) (fun w h1 h2 => ?_)
  simp only [gr_aloadn, gr_getfield, fm_3_0, NI_3, gr_iconst, gr_invokestatic, ps_0, ps_s, pu_n, pu_s, ct_0, ct_i, ct_l, ct_r, gr_putfield, fk_3_1, iz_3_1, gr_iloadn, fk_3_2, iz_3_2, gr_bipush, fk_3_3, iz_3_3, gr_return, NI_18, ia_18, ln_18, al_18, gr_nil, pI_c, pR_c, oI_c, oR_c, lg_i, lg_l, lg_r, lg_n, kI_p, kI_m, lk_0, lk_s, ar_n, ar_c, if_true, if_false, List.replicate, Nat.reduceAdd, Nat.reduceSub, Nat.reduceLeDiff, Nat.reduceEqDiff, Nat.reduceLT, reduceIte, true_and, and_true, true_implies, false_implies, implies_true, eq_self, not_true_eq_false, not_false_eq_true, Bool.false_eq_true, reduceCtorEq, forall_const, List.headD_cons, Nat.zero_add, true_or, or_true, ne_eq, false_and, and_false, false_or, or_false, Nat.reduceBEq, Bool.false_and, Bool.and_false, Bool.or_false, Bool.false_or, Bool.and_self, Bool.true_and, Bool.and_true, Bool.or_self, z10, z01, zm0, nz1, nz0, cnt0, hs]
  have e1 : (if nI k < nI 60 then nI k else nI 60) = nI k := by
    split
    · rfl
    · next h => rw [nI_ltI (by omega) (by omega)] at h; rw [show k = 60 by omega]
  have e2 : (if nI 0 < nI k then nI k else nI 0) = nI k := by
    split
    · rfl
    · next h => rw [nI_ltI (by omega) (by omega)] at h; rw [show k = 0 by omega]
  rw [e1, e2]
  refine hq _ (fun j hj => ?_) ?_ ?_ ?_ ?_
  · simp only [rd_wr]; exact h1 j hj
  · simp [rd_wr]
  · simp [rd_wr]
  · simp [rd_wr]
  · refine ((h2.wk ?_).wr _ ?_).wr _ ?_ |>.wr _ ?_
    · rintro a b _ ⟨rfl, rfl⟩; exact ⟨Or.inl rfl, rfl⟩
    all_goals exact ⟨Or.inr rfl, rfl⟩
theorem c_R_item {d s k z : Nat} {u : Mem} {Q : Option MV → Mem → Prop} (hs : s < 4) (hz : rd u 3 s 3 = nI z) (hk : k < z) (hz2 : z ≤ 60) (hq : Q (some (.inl (rd u 18 s k))) u) : OKm (d + 2) g_R_item [.inr (.inr (3, s)), .inl (nI k)] u Q := by
  refine en_R_item _ (Nat.le_of_ble_eq_true rfl) (rb_R_item_0 ?_)
  simp only [bk_R_item_0, gr_iloadn, gr_aloadn, gr_getfield, fm_3_3, NI_3, gr_invokestatic, ps_0, ps_s, pu_n, pu_s, ct_0, ct_i, ct_l, ct_r, gr_ifCond_eq, gr_bipush, gr_ificmp_ge, fm_3_0, gr_iaload, gr_goto, gr_iconst, gr_ireturn, NI_18, ia_18, ln_18, al_18, gr_nil, pI_c, pR_c, oI_c, oR_c, lg_i, lg_l, lg_r, lg_n, kI_p, kI_m, lk_0, lk_s, ar_n, ar_c, if_true, if_false, List.replicate, Nat.reduceAdd, Nat.reduceSub, Nat.reduceLeDiff, Nat.reduceEqDiff, Nat.reduceLT, reduceIte, true_and, and_true, true_implies, false_implies, implies_true, eq_self, not_true_eq_false, not_false_eq_true, Bool.false_eq_true, reduceCtorEq, forall_const, List.headD_cons, Nat.zero_add, true_or, or_true, ne_eq, false_and, and_false, false_or, or_false, Nat.reduceBEq, Bool.false_and, Bool.and_false, Bool.or_false, Bool.false_or, Bool.and_self, Bool.true_and, Bool.and_true, Bool.or_self, z10, z01, zm0, nz1, nz0, cnt0, hs, hz]
  refine c_W_isBelow (fun _ _ => ?_) (fun h => ?_)
  · simp only [gr_iloadn, gr_aloadn, gr_getfield, fm_3_3, NI_3, gr_invokestatic, ps_0, ps_s, pu_n, pu_s, ct_0, ct_i, ct_l, ct_r, gr_ifCond_eq, gr_bipush, gr_ificmp_ge, fm_3_0, gr_iaload, gr_goto, gr_iconst, gr_ireturn, NI_18, ia_18, ln_18, al_18, gr_nil, pI_c, pR_c, oI_c, oR_c, lg_i, lg_l, lg_r, lg_n, kI_p, kI_m, lk_0, lk_s, ar_n, ar_c, if_true, if_false, List.replicate, Nat.reduceAdd, Nat.reduceSub, Nat.reduceLeDiff, Nat.reduceEqDiff, Nat.reduceLT, reduceIte, true_and, and_true, true_implies, false_implies, implies_true, eq_self, not_true_eq_false, not_false_eq_true, Bool.false_eq_true, reduceCtorEq, forall_const, List.headD_cons, Nat.zero_add, true_or, or_true, ne_eq, false_and, and_false, false_or, or_false, Nat.reduceBEq, Bool.false_and, Bool.and_false, Bool.or_false, Bool.false_or, Bool.and_self, Bool.true_and, Bool.and_true, Bool.or_self, z10, z01, zm0, nz1, nz0, cnt0, hs, hz]
    simp (disch := omega) only [nI_leI, nI_ltI, nI_eq, nI_add, pk_mul, nI_clamp, vp_nI, nI_lt0, nI_ge0, nI_eq0, nI_gt0, nI_le0, nI_neg1, neg1_nI, Nat.not_le, Nat.not_lt, if_true, if_false, true_and, and_true, true_implies, false_implies, implies_true, not_true_eq_false, not_false_eq_true, reduceIte, false_or, or_false, false_and, and_false, true_or, or_true]
    refine ⟨fun h => by omega, fun _ => ⟨by omega, ?_⟩⟩
    repeat' first | with_reducible intro _ | with_reducible apply And.intro | (refine rb_R_item_2 ?_; simp only [bk_R_item_2, gr_iloadn, gr_aloadn, gr_getfield, fm_3_3, NI_3, gr_invokestatic, ps_0, ps_s, pu_n, pu_s, ct_0, ct_i, ct_l, ct_r, gr_ifCond_eq, gr_bipush, gr_ificmp_ge, fm_3_0, gr_iaload, gr_goto, gr_iconst, gr_ireturn, NI_18, ia_18, ln_18, al_18, gr_nil, pI_c, pR_c, oI_c, oR_c, lg_i, lg_l, lg_r, lg_n, kI_p, kI_m, lk_0, lk_s, ar_n, ar_c, if_true, if_false, List.replicate, Nat.reduceAdd, Nat.reduceSub, Nat.reduceLeDiff, Nat.reduceEqDiff, Nat.reduceLT, reduceIte, true_and, and_true, true_implies, false_implies, implies_true, eq_self, not_true_eq_false, not_false_eq_true, Bool.false_eq_true, reduceCtorEq, forall_const, List.headD_cons, Nat.zero_add, true_or, or_true, ne_eq, false_and, and_false, false_or, or_false, Nat.reduceBEq, Bool.false_and, Bool.and_false, Bool.or_false, Bool.false_or, Bool.and_self, Bool.true_and, Bool.and_true, Bool.or_self, z10, z01, zm0, nz1, nz0, cnt0])
    exact hq
  · exfalso
    simp (disch := omega) only [nI_leI, nI_ltI, nI_eq, nI_add, pk_mul, nI_clamp, vp_nI, nI_lt0, nI_ge0, nI_eq0, nI_gt0, nI_le0, nI_neg1, neg1_nI, Nat.not_le, Nat.not_lt, if_true, if_false, true_and, and_true, true_implies, false_implies, implies_true, not_true_eq_false, not_false_eq_true, reduceIte, false_or, or_false, false_and, and_false, true_or, or_true] at h
    omega
def cutF (f v : Int32) : Int32 := if f = nI 0 then v.toInt8.toInt32 else if f = nI 1 then v.toInt16.toInt32 else v
theorem c_R_put {d s k z : Nat} {v : Int32} {u : Mem} {Q : Option MV → Mem → Prop} (hs : s < 4) (hz : rd u 3 s 3 = nI z) (hk : k < z) (hz2 : z ≤ 60) (hq : Q none (wr u 18 s k (cutF (rd u 3 s 2) v))) : OKm (d + 2) g_R_put [.inr (.inr (3, s)), .inl (nI k), .inl v] u Q := by
  refine en_R_put _ (Nat.le_of_ble_eq_true rfl) (rb_R_put_0 ?_)
  simp only [bk_R_put_0, gr_iloadn, gr_aloadn, gr_getfield, fm_3_3, NI_3, gr_invokestatic, ps_0, ps_s, pu_n, pu_s, ct_0, ct_i, ct_l, ct_r, gr_ifCond_eq, gr_bipush, gr_ificmp_ge, fm_3_0, fm_3_2, gr_ifCond_ne, gr_i2b, gr_goto, gr_iconst, gr_ificmp_ne, gr_i2s, gr_iastore, gr_return, NI_18, ia_18, ln_18, al_18, gr_nil, pI_c, pR_c, oI_c, oR_c, lg_i, lg_l, lg_r, lg_n, kI_p, kI_m, lk_0, lk_s, ar_n, ar_c, if_true, if_false, List.replicate, Nat.reduceAdd, Nat.reduceSub, Nat.reduceLeDiff, Nat.reduceEqDiff, Nat.reduceLT, reduceIte, true_and, and_true, true_implies, false_implies, implies_true, eq_self, not_true_eq_false, not_false_eq_true, Bool.false_eq_true, reduceCtorEq, forall_const, List.headD_cons, Nat.zero_add, true_or, or_true, ne_eq, false_and, and_false, false_or, or_false, Nat.reduceBEq, Bool.false_and, Bool.and_false, Bool.or_false, Bool.false_or, Bool.and_self, Bool.true_and, Bool.and_true, Bool.or_self, z10, z01, zm0, nz1, nz0, cnt0, hs, hz]
  refine c_W_isBelow (fun _ _ => ?_) (fun h => ?_)
  · simp only [gr_iloadn, gr_aloadn, gr_getfield, fm_3_3, NI_3, gr_invokestatic, ps_0, ps_s, pu_n, pu_s, ct_0, ct_i, ct_l, ct_r, gr_ifCond_eq, gr_bipush, gr_ificmp_ge, fm_3_0, fm_3_2, gr_ifCond_ne, gr_i2b, gr_goto, gr_iconst, gr_ificmp_ne, gr_i2s, gr_iastore, gr_return, NI_18, ia_18, ln_18, al_18, gr_nil, pI_c, pR_c, oI_c, oR_c, lg_i, lg_l, lg_r, lg_n, kI_p, kI_m, lk_0, lk_s, ar_n, ar_c, if_true, if_false, List.replicate, Nat.reduceAdd, Nat.reduceSub, Nat.reduceLeDiff, Nat.reduceEqDiff, Nat.reduceLT, reduceIte, true_and, and_true, true_implies, false_implies, implies_true, eq_self, not_true_eq_false, not_false_eq_true, Bool.false_eq_true, reduceCtorEq, forall_const, List.headD_cons, Nat.zero_add, true_or, or_true, ne_eq, false_and, and_false, false_or, or_false, Nat.reduceBEq, Bool.false_and, Bool.and_false, Bool.or_false, Bool.false_or, Bool.and_self, Bool.true_and, Bool.and_true, Bool.or_self, z10, z01, zm0, nz1, nz0, cnt0, hs, hz]
    simp (disch := omega) only [nI_leI, nI_ltI, nI_eq, nI_add, pk_mul, nI_clamp, vp_nI, nI_lt0, nI_ge0, nI_eq0, nI_gt0, nI_le0, nI_neg1, neg1_nI, Nat.not_le, Nat.not_lt, if_true, if_false, true_and, and_true, true_implies, false_implies, implies_true, not_true_eq_false, not_false_eq_true, reduceIte, false_or, or_false, false_and, and_false, true_or, or_true]
    unfold cutF at hq
    refine ⟨fun h => by omega, fun _ => ⟨fun h0 => ?_, fun h0 => ?_⟩⟩
    · rw [if_neg (show ¬ rd u 3 s 2 = nI 0 from h0)] at hq
      (refine rb_R_put_1 ?_; simp only [bk_R_put_1, gr_iloadn, gr_aloadn, gr_getfield, fm_3_3, NI_3, gr_invokestatic, ps_0, ps_s, pu_n, pu_s, ct_0, ct_i, ct_l, ct_r, gr_ifCond_eq, gr_bipush, gr_ificmp_ge, fm_3_0, fm_3_2, gr_ifCond_ne, gr_i2b, gr_goto, gr_iconst, gr_ificmp_ne, gr_i2s, gr_iastore, gr_return, NI_18, ia_18, ln_18, al_18, gr_nil, pI_c, pR_c, oI_c, oR_c, lg_i, lg_l, lg_r, lg_n, kI_p, kI_m, lk_0, lk_s, ar_n, ar_c, if_true, if_false, List.replicate, Nat.reduceAdd, Nat.reduceSub, Nat.reduceLeDiff, Nat.reduceEqDiff, Nat.reduceLT, reduceIte, true_and, and_true, true_implies, false_implies, implies_true, eq_self, not_true_eq_false, not_false_eq_true, Bool.false_eq_true, reduceCtorEq, forall_const, List.headD_cons, Nat.zero_add, true_or, or_true, ne_eq, false_and, and_false, false_or, or_false, Nat.reduceBEq, Bool.false_and, Bool.and_false, Bool.or_false, Bool.false_or, Bool.and_self, Bool.true_and, Bool.and_true, Bool.or_self, z10, z01, zm0, nz1, nz0, cnt0, hs, hz])
      refine ⟨fun h1 => ?_, fun h1 => ?_⟩
      · rw [if_neg h1] at hq
        repeat' first | with_reducible intro _ | with_reducible apply And.intro | (refine rb_R_put_2 ?_; simp only [bk_R_put_2, gr_iloadn, gr_aloadn, gr_getfield, fm_3_3, NI_3, gr_invokestatic, ps_0, ps_s, pu_n, pu_s, ct_0, ct_i, ct_l, ct_r, gr_ifCond_eq, gr_bipush, gr_ificmp_ge, fm_3_0, fm_3_2, gr_ifCond_ne, gr_i2b, gr_goto, gr_iconst, gr_ificmp_ne, gr_i2s, gr_iastore, gr_return, NI_18, ia_18, ln_18, al_18, gr_nil, pI_c, pR_c, oI_c, oR_c, lg_i, lg_l, lg_r, lg_n, kI_p, kI_m, lk_0, lk_s, ar_n, ar_c, if_true, if_false, List.replicate, Nat.reduceAdd, Nat.reduceSub, Nat.reduceLeDiff, Nat.reduceEqDiff, Nat.reduceLT, reduceIte, true_and, and_true, true_implies, false_implies, implies_true, eq_self, not_true_eq_false, not_false_eq_true, Bool.false_eq_true, reduceCtorEq, forall_const, List.headD_cons, Nat.zero_add, true_or, or_true, ne_eq, false_and, and_false, false_or, or_false, Nat.reduceBEq, Bool.false_and, Bool.and_false, Bool.or_false, Bool.false_or, Bool.and_self, Bool.true_and, Bool.and_true, Bool.or_self, z10, z01, zm0, nz1, nz0, cnt0, hs, hz]) | (refine rb_R_put_3 ?_; simp only [bk_R_put_3, gr_iloadn, gr_aloadn, gr_getfield, fm_3_3, NI_3, gr_invokestatic, ps_0, ps_s, pu_n, pu_s, ct_0, ct_i, ct_l, ct_r, gr_ifCond_eq, gr_bipush, gr_ificmp_ge, fm_3_0, fm_3_2, gr_ifCond_ne, gr_i2b, gr_goto, gr_iconst, gr_ificmp_ne, gr_i2s, gr_iastore, gr_return, NI_18, ia_18, ln_18, al_18, gr_nil, pI_c, pR_c, oI_c, oR_c, lg_i, lg_l, lg_r, lg_n, kI_p, kI_m, lk_0, lk_s, ar_n, ar_c, if_true, if_false, List.replicate, Nat.reduceAdd, Nat.reduceSub, Nat.reduceLeDiff, Nat.reduceEqDiff, Nat.reduceLT, reduceIte, true_and, and_true, true_implies, false_implies, implies_true, eq_self, not_true_eq_false, not_false_eq_true, Bool.false_eq_true, reduceCtorEq, forall_const, List.headD_cons, Nat.zero_add, true_or, or_true, ne_eq, false_and, and_false, false_or, or_false, Nat.reduceBEq, Bool.false_and, Bool.and_false, Bool.or_false, Bool.false_or, Bool.and_self, Bool.true_and, Bool.and_true, Bool.or_self, z10, z01, zm0, nz1, nz0, cnt0, hs, hz]) | (refine rb_R_put_4 ?_; simp only [bk_R_put_4, gr_iloadn, gr_aloadn, gr_getfield, fm_3_3, NI_3, gr_invokestatic, ps_0, ps_s, pu_n, pu_s, ct_0, ct_i, ct_l, ct_r, gr_ifCond_eq, gr_bipush, gr_ificmp_ge, fm_3_0, fm_3_2, gr_ifCond_ne, gr_i2b, gr_goto, gr_iconst, gr_ificmp_ne, gr_i2s, gr_iastore, gr_return, NI_18, ia_18, ln_18, al_18, gr_nil, pI_c, pR_c, oI_c, oR_c, lg_i, lg_l, lg_r, lg_n, kI_p, kI_m, lk_0, lk_s, ar_n, ar_c, if_true, if_false, List.replicate, Nat.reduceAdd, Nat.reduceSub, Nat.reduceLeDiff, Nat.reduceEqDiff, Nat.reduceLT, reduceIte, true_and, and_true, true_implies, false_implies, implies_true, eq_self, not_true_eq_false, not_false_eq_true, Bool.false_eq_true, reduceCtorEq, forall_const, List.headD_cons, Nat.zero_add, true_or, or_true, ne_eq, false_and, and_false, false_or, or_false, Nat.reduceBEq, Bool.false_and, Bool.and_false, Bool.or_false, Bool.false_or, Bool.and_self, Bool.true_and, Bool.and_true, Bool.or_self, z10, z01, zm0, nz1, nz0, cnt0, hs, hz])
        · exact vp_in_nI (by omega) (by omega)
        · rw [nI_clamp (by omega)]; exact hq
      · rw [if_pos h1] at hq
        repeat' first | with_reducible intro _ | with_reducible apply And.intro | (refine rb_R_put_3 ?_; simp only [bk_R_put_3, gr_iloadn, gr_aloadn, gr_getfield, fm_3_3, NI_3, gr_invokestatic, ps_0, ps_s, pu_n, pu_s, ct_0, ct_i, ct_l, ct_r, gr_ifCond_eq, gr_bipush, gr_ificmp_ge, fm_3_0, fm_3_2, gr_ifCond_ne, gr_i2b, gr_goto, gr_iconst, gr_ificmp_ne, gr_i2s, gr_iastore, gr_return, NI_18, ia_18, ln_18, al_18, gr_nil, pI_c, pR_c, oI_c, oR_c, lg_i, lg_l, lg_r, lg_n, kI_p, kI_m, lk_0, lk_s, ar_n, ar_c, if_true, if_false, List.replicate, Nat.reduceAdd, Nat.reduceSub, Nat.reduceLeDiff, Nat.reduceEqDiff, Nat.reduceLT, reduceIte, true_and, and_true, true_implies, false_implies, implies_true, eq_self, not_true_eq_false, not_false_eq_true, Bool.false_eq_true, reduceCtorEq, forall_const, List.headD_cons, Nat.zero_add, true_or, or_true, ne_eq, false_and, and_false, false_or, or_false, Nat.reduceBEq, Bool.false_and, Bool.and_false, Bool.or_false, Bool.false_or, Bool.and_self, Bool.true_and, Bool.and_true, Bool.or_self, z10, z01, zm0, nz1, nz0, cnt0, hs, hz]) | (refine rb_R_put_4 ?_; simp only [bk_R_put_4, gr_iloadn, gr_aloadn, gr_getfield, fm_3_3, NI_3, gr_invokestatic, ps_0, ps_s, pu_n, pu_s, ct_0, ct_i, ct_l, ct_r, gr_ifCond_eq, gr_bipush, gr_ificmp_ge, fm_3_0, fm_3_2, gr_ifCond_ne, gr_i2b, gr_goto, gr_iconst, gr_ificmp_ne, gr_i2s, gr_iastore, gr_return, NI_18, ia_18, ln_18, al_18, gr_nil, pI_c, pR_c, oI_c, oR_c, lg_i, lg_l, lg_r, lg_n, kI_p, kI_m, lk_0, lk_s, ar_n, ar_c, if_true, if_false, List.replicate, Nat.reduceAdd, Nat.reduceSub, Nat.reduceLeDiff, Nat.reduceEqDiff, Nat.reduceLT, reduceIte, true_and, and_true, true_implies, false_implies, implies_true, eq_self, not_true_eq_false, not_false_eq_true, Bool.false_eq_true, reduceCtorEq, forall_const, List.headD_cons, Nat.zero_add, true_or, or_true, ne_eq, false_and, and_false, false_or, or_false, Nat.reduceBEq, Bool.false_and, Bool.and_false, Bool.or_false, Bool.false_or, Bool.and_self, Bool.true_and, Bool.and_true, Bool.or_self, z10, z01, zm0, nz1, nz0, cnt0, hs, hz])
        · exact vp_in_nI (by omega) (by omega)
        · rw [nI_clamp (by omega)]; exact hq
    · rw [if_pos (show rd u 3 s 2 = nI 0 from h0)] at hq
      repeat' first | with_reducible intro _ | with_reducible apply And.intro | (refine rb_R_put_3 ?_; simp only [bk_R_put_3, gr_iloadn, gr_aloadn, gr_getfield, fm_3_3, NI_3, gr_invokestatic, ps_0, ps_s, pu_n, pu_s, ct_0, ct_i, ct_l, ct_r, gr_ifCond_eq, gr_bipush, gr_ificmp_ge, fm_3_0, fm_3_2, gr_ifCond_ne, gr_i2b, gr_goto, gr_iconst, gr_ificmp_ne, gr_i2s, gr_iastore, gr_return, NI_18, ia_18, ln_18, al_18, gr_nil, pI_c, pR_c, oI_c, oR_c, lg_i, lg_l, lg_r, lg_n, kI_p, kI_m, lk_0, lk_s, ar_n, ar_c, if_true, if_false, List.replicate, Nat.reduceAdd, Nat.reduceSub, Nat.reduceLeDiff, Nat.reduceEqDiff, Nat.reduceLT, reduceIte, true_and, and_true, true_implies, false_implies, implies_true, eq_self, not_true_eq_false, not_false_eq_true, Bool.false_eq_true, reduceCtorEq, forall_const, List.headD_cons, Nat.zero_add, true_or, or_true, ne_eq, false_and, and_false, false_or, or_false, Nat.reduceBEq, Bool.false_and, Bool.and_false, Bool.or_false, Bool.false_or, Bool.and_self, Bool.true_and, Bool.and_true, Bool.or_self, z10, z01, zm0, nz1, nz0, cnt0, hs, hz]) | (refine rb_R_put_4 ?_; simp only [bk_R_put_4, gr_iloadn, gr_aloadn, gr_getfield, fm_3_3, NI_3, gr_invokestatic, ps_0, ps_s, pu_n, pu_s, ct_0, ct_i, ct_l, ct_r, gr_ifCond_eq, gr_bipush, gr_ificmp_ge, fm_3_0, fm_3_2, gr_ifCond_ne, gr_i2b, gr_goto, gr_iconst, gr_ificmp_ne, gr_i2s, gr_iastore, gr_return, NI_18, ia_18, ln_18, al_18, gr_nil, pI_c, pR_c, oI_c, oR_c, lg_i, lg_l, lg_r, lg_n, kI_p, kI_m, lk_0, lk_s, ar_n, ar_c, if_true, if_false, List.replicate, Nat.reduceAdd, Nat.reduceSub, Nat.reduceLeDiff, Nat.reduceEqDiff, Nat.reduceLT, reduceIte, true_and, and_true, true_implies, false_implies, implies_true, eq_self, not_true_eq_false, not_false_eq_true, Bool.false_eq_true, reduceCtorEq, forall_const, List.headD_cons, Nat.zero_add, true_or, or_true, ne_eq, false_and, and_false, false_or, or_false, Nat.reduceBEq, Bool.false_and, Bool.and_false, Bool.or_false, Bool.false_or, Bool.and_self, Bool.true_and, Bool.and_true, Bool.or_self, z10, z01, zm0, nz1, nz0, cnt0, hs, hz])
      · exact vp_in_nI (by omega) (by omega)
      · rw [nI_clamp (by omega)]; exact hq
  · exfalso
    simp (disch := omega) only [nI_leI, nI_ltI, nI_eq, nI_add, pk_mul, nI_clamp, vp_nI, nI_lt0, nI_ge0, nI_eq0, nI_gt0, nI_le0, nI_neg1, neg1_nI, Nat.not_le, Nat.not_lt, if_true, if_false, true_and, and_true, true_implies, false_implies, implies_true, not_true_eq_false, not_false_eq_true, reduceIte, false_or, or_false, false_and, and_false, true_or, or_true] at h
    omega
theorem c_R_has {d s z : Nat} {x n : Int32} {u : Mem} {Q : Option MV → Mem → Prop} (hs : s < 4) (hz : rd u 3 s 3 = nI z) (hz2 : z ≤ 60) (h1 : ∀ a b, x = nI a → n = nI b → a + b ≤ z → Q (some (.inl (nI 1))) u) (h0 : (∀ a b, x = nI a → n = nI b → z < a + b ∨ 2 ^ 31 ≤ a ∨ 2 ^ 31 ≤ b) → Q (some (.inl (nI 0))) u) : OKm (d + 1) g_R_has [.inr (.inr (3, s)), .inl x, .inl n] u Q := by
  have hx0 : x < 0 → Q (some (.inl (nI 0))) u := fun h => h0 fun a b ha _ => by
    by_cases h5 : a < 2 ^ 31
    · rw [ha] at h; exact absurd h (nI_pos h5)
    · omega
  have hn0 : n < 0 → Q (some (.inl (nI 0))) u := fun h => h0 fun a b _ hb => by
    by_cases h5 : b < 2 ^ 31
    · rw [hb] at h; exact absurd h (nI_pos h5)
    · omega
  have hab : ∀ a b, x = nI a → n = nI b → a < 2 ^ 31 → b < 2 ^ 31 → z < a + b → Q (some (.inl (nI 0))) u := fun a b ha hb h3 h4 h => h0 fun a' b' ha' hb' => by
    by_cases h5 : a' < 2 ^ 31
    · by_cases h6 : b' < 2 ^ 31
      · have := (nI_eq h3 h5).mp (ha.symm.trans ha')
        have := (nI_eq h4 h6).mp (hb.symm.trans hb')
        omega
      · omega
    · omega
  refine en_R_has _ (Nat.le_of_ble_eq_true rfl) (rb_R_has_0 ?_)
  simp only [bk_R_has_0, gr_iloadn, gr_ifCond_lt, gr_aloadn, gr_getfield, fm_3_3, NI_3, gr_ificmp_gt, gr_isub, gr_iconst, gr_goto, gr_ireturn, gr_nil, pI_c, pR_c, oI_c, oR_c, lg_i, lg_l, lg_r, lg_n, kI_p, kI_m, lk_0, lk_s, ar_n, ar_c, if_true, if_false, List.replicate, Nat.reduceAdd, Nat.reduceSub, Nat.reduceLeDiff, Nat.reduceEqDiff, Nat.reduceLT, reduceIte, true_and, and_true, true_implies, false_implies, implies_true, eq_self, not_true_eq_false, not_false_eq_true, Bool.false_eq_true, reduceCtorEq, forall_const, List.headD_cons, Nat.zero_add, true_or, or_true, ne_eq, false_and, and_false, false_or, or_false, Nat.reduceBEq, Bool.false_and, Bool.and_false, Bool.or_false, Bool.false_or, Bool.and_self, Bool.true_and, Bool.and_true, Bool.or_self, z10, z01, zm0, nz1, nz0, cnt0, hs, hz]
  by_cases hx : x < 0
  · repeat' first | with_reducible intro _ | with_reducible apply And.intro | (refine rb_R_has_1 ?_; simp only [bk_R_has_1, gr_iloadn, gr_ifCond_lt, gr_aloadn, gr_getfield, fm_3_3, NI_3, gr_ificmp_gt, gr_isub, gr_iconst, gr_goto, gr_ireturn, gr_nil, pI_c, pR_c, oI_c, oR_c, lg_i, lg_l, lg_r, lg_n, kI_p, kI_m, lk_0, lk_s, ar_n, ar_c, if_true, if_false, List.replicate, Nat.reduceAdd, Nat.reduceSub, Nat.reduceLeDiff, Nat.reduceEqDiff, Nat.reduceLT, reduceIte, true_and, and_true, true_implies, false_implies, implies_true, eq_self, not_true_eq_false, not_false_eq_true, Bool.false_eq_true, reduceCtorEq, forall_const, List.headD_cons, Nat.zero_add, true_or, or_true, ne_eq, false_and, and_false, false_or, or_false, Nat.reduceBEq, Bool.false_and, Bool.and_false, Bool.or_false, Bool.false_or, Bool.and_self, Bool.true_and, Bool.and_true, Bool.or_self, z10, z01, zm0, nz1, nz0, cnt0, hs, hz]) | (refine rb_R_has_2 ?_; simp only [bk_R_has_2, gr_iloadn, gr_ifCond_lt, gr_aloadn, gr_getfield, fm_3_3, NI_3, gr_ificmp_gt, gr_isub, gr_iconst, gr_goto, gr_ireturn, gr_nil, pI_c, pR_c, oI_c, oR_c, lg_i, lg_l, lg_r, lg_n, kI_p, kI_m, lk_0, lk_s, ar_n, ar_c, if_true, if_false, List.replicate, Nat.reduceAdd, Nat.reduceSub, Nat.reduceLeDiff, Nat.reduceEqDiff, Nat.reduceLT, reduceIte, true_and, and_true, true_implies, false_implies, implies_true, eq_self, not_true_eq_false, not_false_eq_true, Bool.false_eq_true, reduceCtorEq, forall_const, List.headD_cons, Nat.zero_add, true_or, or_true, ne_eq, false_and, and_false, false_or, or_false, Nat.reduceBEq, Bool.false_and, Bool.and_false, Bool.or_false, Bool.false_or, Bool.and_self, Bool.true_and, Bool.and_true, Bool.or_self, z10, z01, zm0, nz1, nz0, cnt0, hs, hz])
    all_goals first | exact hx0 hx | (exact absurd hx ‹_›)
  · obtain ⟨a, ha2, ha⟩ := nI_of hx
    by_cases hn : n < 0
    · repeat' first | with_reducible intro _ | with_reducible apply And.intro | (refine rb_R_has_1 ?_; simp only [bk_R_has_1, gr_iloadn, gr_ifCond_lt, gr_aloadn, gr_getfield, fm_3_3, NI_3, gr_ificmp_gt, gr_isub, gr_iconst, gr_goto, gr_ireturn, gr_nil, pI_c, pR_c, oI_c, oR_c, lg_i, lg_l, lg_r, lg_n, kI_p, kI_m, lk_0, lk_s, ar_n, ar_c, if_true, if_false, List.replicate, Nat.reduceAdd, Nat.reduceSub, Nat.reduceLeDiff, Nat.reduceEqDiff, Nat.reduceLT, reduceIte, true_and, and_true, true_implies, false_implies, implies_true, eq_self, not_true_eq_false, not_false_eq_true, Bool.false_eq_true, reduceCtorEq, forall_const, List.headD_cons, Nat.zero_add, true_or, or_true, ne_eq, false_and, and_false, false_or, or_false, Nat.reduceBEq, Bool.false_and, Bool.and_false, Bool.or_false, Bool.false_or, Bool.and_self, Bool.true_and, Bool.and_true, Bool.or_self, z10, z01, zm0, nz1, nz0, cnt0, hs, hz]) | (refine rb_R_has_2 ?_; simp only [bk_R_has_2, gr_iloadn, gr_ifCond_lt, gr_aloadn, gr_getfield, fm_3_3, NI_3, gr_ificmp_gt, gr_isub, gr_iconst, gr_goto, gr_ireturn, gr_nil, pI_c, pR_c, oI_c, oR_c, lg_i, lg_l, lg_r, lg_n, kI_p, kI_m, lk_0, lk_s, ar_n, ar_c, if_true, if_false, List.replicate, Nat.reduceAdd, Nat.reduceSub, Nat.reduceLeDiff, Nat.reduceEqDiff, Nat.reduceLT, reduceIte, true_and, and_true, true_implies, false_implies, implies_true, eq_self, not_true_eq_false, not_false_eq_true, Bool.false_eq_true, reduceCtorEq, forall_const, List.headD_cons, Nat.zero_add, true_or, or_true, ne_eq, false_and, and_false, false_or, or_false, Nat.reduceBEq, Bool.false_and, Bool.and_false, Bool.or_false, Bool.false_or, Bool.and_self, Bool.true_and, Bool.and_true, Bool.or_self, z10, z01, zm0, nz1, nz0, cnt0, hs, hz])
      all_goals first | exact hn0 hn | (exact absurd hn ‹_›)
    · obtain ⟨b, hb2, hb⟩ := nI_of hn
      have h1' := h1 a b ha hb
      have h0' := hab a b ha hb ha2 hb2
      clear h1 h0 hab hx0 hn0
      subst ha
      subst hb
      by_cases haz : a ≤ z
      · have e : nI z - nI a = nI (z - a) := pk_sub haz
        simp (disch := omega) only [nI_leI, nI_ltI, nI_eq, nI_add, pk_mul, nI_clamp, vp_nI, nI_lt0, nI_ge0, nI_eq0, nI_gt0, nI_le0, nI_neg1, neg1_nI, Nat.not_le, Nat.not_lt, if_true, if_false, true_and, and_true, true_implies, false_implies, implies_true, not_true_eq_false, not_false_eq_true, reduceIte, false_or, or_false, false_and, and_false, true_or, or_true, e]
        refine ⟨fun h => by omega, fun _ => ⟨fun h => ?_, fun h => ?_⟩⟩
        all_goals repeat' first | with_reducible intro _ | with_reducible apply And.intro | (refine rb_R_has_1 ?_; simp only [bk_R_has_1, gr_iloadn, gr_ifCond_lt, gr_aloadn, gr_getfield, fm_3_3, NI_3, gr_ificmp_gt, gr_isub, gr_iconst, gr_goto, gr_ireturn, gr_nil, pI_c, pR_c, oI_c, oR_c, lg_i, lg_l, lg_r, lg_n, kI_p, kI_m, lk_0, lk_s, ar_n, ar_c, if_true, if_false, List.replicate, Nat.reduceAdd, Nat.reduceSub, Nat.reduceLeDiff, Nat.reduceEqDiff, Nat.reduceLT, reduceIte, true_and, and_true, true_implies, false_implies, implies_true, eq_self, not_true_eq_false, not_false_eq_true, Bool.false_eq_true, reduceCtorEq, forall_const, List.headD_cons, Nat.zero_add, true_or, or_true, ne_eq, false_and, and_false, false_or, or_false, Nat.reduceBEq, Bool.false_and, Bool.and_false, Bool.or_false, Bool.false_or, Bool.and_self, Bool.true_and, Bool.and_true, Bool.or_self, z10, z01, zm0, nz1, nz0, cnt0, hs, hz]) | (refine rb_R_has_2 ?_; simp only [bk_R_has_2, gr_iloadn, gr_ifCond_lt, gr_aloadn, gr_getfield, fm_3_3, NI_3, gr_ificmp_gt, gr_isub, gr_iconst, gr_goto, gr_ireturn, gr_nil, pI_c, pR_c, oI_c, oR_c, lg_i, lg_l, lg_r, lg_n, kI_p, kI_m, lk_0, lk_s, ar_n, ar_c, if_true, if_false, List.replicate, Nat.reduceAdd, Nat.reduceSub, Nat.reduceLeDiff, Nat.reduceEqDiff, Nat.reduceLT, reduceIte, true_and, and_true, true_implies, false_implies, implies_true, eq_self, not_true_eq_false, not_false_eq_true, Bool.false_eq_true, reduceCtorEq, forall_const, List.headD_cons, Nat.zero_add, true_or, or_true, ne_eq, false_and, and_false, false_or, or_false, Nat.reduceBEq, Bool.false_and, Bool.and_false, Bool.or_false, Bool.false_or, Bool.and_self, Bool.true_and, Bool.and_true, Bool.or_self, z10, z01, zm0, nz1, nz0, cnt0, hs, hz])
        all_goals first | exact h1' (by omega) | exact h0' (by omega)
      · simp (disch := omega) only [nI_leI, nI_ltI, nI_eq, nI_add, pk_mul, nI_clamp, vp_nI, nI_lt0, nI_ge0, nI_eq0, nI_gt0, nI_le0, nI_neg1, neg1_nI, Nat.not_le, Nat.not_lt, if_true, if_false, true_and, and_true, true_implies, false_implies, implies_true, not_true_eq_false, not_false_eq_true, reduceIte, false_or, or_false, false_and, and_false, true_or, or_true]
        refine ⟨fun h => ?_, fun h => by omega⟩
        repeat' first | with_reducible intro _ | with_reducible apply And.intro | (refine rb_R_has_1 ?_; simp only [bk_R_has_1, gr_iloadn, gr_ifCond_lt, gr_aloadn, gr_getfield, fm_3_3, NI_3, gr_ificmp_gt, gr_isub, gr_iconst, gr_goto, gr_ireturn, gr_nil, pI_c, pR_c, oI_c, oR_c, lg_i, lg_l, lg_r, lg_n, kI_p, kI_m, lk_0, lk_s, ar_n, ar_c, if_true, if_false, List.replicate, Nat.reduceAdd, Nat.reduceSub, Nat.reduceLeDiff, Nat.reduceEqDiff, Nat.reduceLT, reduceIte, true_and, and_true, true_implies, false_implies, implies_true, eq_self, not_true_eq_false, not_false_eq_true, Bool.false_eq_true, reduceCtorEq, forall_const, List.headD_cons, Nat.zero_add, true_or, or_true, ne_eq, false_and, and_false, false_or, or_false, Nat.reduceBEq, Bool.false_and, Bool.and_false, Bool.or_false, Bool.false_or, Bool.and_self, Bool.true_and, Bool.and_true, Bool.or_self, z10, z01, zm0, nz1, nz0, cnt0, hs, hz]) | (refine rb_R_has_2 ?_; simp only [bk_R_has_2, gr_iloadn, gr_ifCond_lt, gr_aloadn, gr_getfield, fm_3_3, NI_3, gr_ificmp_gt, gr_isub, gr_iconst, gr_goto, gr_ireturn, gr_nil, pI_c, pR_c, oI_c, oR_c, lg_i, lg_l, lg_r, lg_n, kI_p, kI_m, lk_0, lk_s, ar_n, ar_c, if_true, if_false, List.replicate, Nat.reduceAdd, Nat.reduceSub, Nat.reduceLeDiff, Nat.reduceEqDiff, Nat.reduceLT, reduceIte, true_and, and_true, true_implies, false_implies, implies_true, eq_self, not_true_eq_false, not_false_eq_true, Bool.false_eq_true, reduceCtorEq, forall_const, List.headD_cons, Nat.zero_add, true_or, or_true, ne_eq, false_and, and_false, false_or, or_false, Nat.reduceBEq, Bool.false_and, Bool.and_false, Bool.or_false, Bool.false_or, Bool.and_self, Bool.true_and, Bool.and_true, Bool.or_self, z10, z01, zm0, nz1, nz0, cnt0, hs, hz])
        all_goals exact h0' (by omega)
theorem c_S_add {d n : Nat} {x y z : Int32} {u : Mem} {Q : Option MV → Mem → Prop} (hn : rd u 4 0 3 = nI n) (hn2 : n < 8) (hq : Q none (wr (wr (wr (wr u 19 0 n x) 20 0 n y) 21 0 n z) 4 0 3 (nI (n + 1)))) : OKm (d + 1) g_S_add [.inr (.inr (4, 0)), .inl x, .inl y, .inl z] u Q := by
  refine en_S_add _ (Nat.le_of_ble_eq_true rfl) (rb_S_add_0 ?_)
  simp only [bk_S_add_0, gr_aloadn, gr_getfield, fm_4_3, NI_4, gr_bipush, gr_ificmp_ge, fm_4_0, gr_iloadn, gr_iastore, fm_4_1, fm_4_2, gr_dup, pA_i, pA_r, gr_iconst, gr_iadd, gr_putfield, fk_4_3, iz_4_3, gr_return, NI_19, ia_19, ln_19, al_19, NI_20, ia_20, ln_20, al_20, NI_21, ia_21, ln_21, al_21, gr_nil, pI_c, pR_c, oI_c, oR_c, lg_i, lg_l, lg_r, lg_n, kI_p, kI_m, lk_0, lk_s, ar_n, ar_c, if_true, if_false, List.replicate, Nat.reduceAdd, Nat.reduceSub, Nat.reduceLeDiff, Nat.reduceEqDiff, Nat.reduceLT, reduceIte, true_and, and_true, true_implies, false_implies, implies_true, eq_self, not_true_eq_false, not_false_eq_true, Bool.false_eq_true, reduceCtorEq, forall_const, List.headD_cons, Nat.zero_add, true_or, or_true, ne_eq, false_and, and_false, false_or, or_false, Nat.reduceBEq, Bool.false_and, Bool.and_false, Bool.or_false, Bool.false_or, Bool.and_self, Bool.true_and, Bool.and_true, Bool.or_self, z10, z01, zm0, nz1, nz0, cnt0, hn, rd_wr]
  simp (disch := omega) only [nI_leI, nI_ltI, nI_eq, nI_add, pk_mul, nI_clamp, vp_nI, nI_lt0, nI_ge0, nI_eq0, nI_gt0, nI_le0, nI_neg1, neg1_nI, Nat.not_le, Nat.not_lt, if_true, if_false, true_and, and_true, true_implies, false_implies, implies_true, not_true_eq_false, not_false_eq_true, reduceIte, false_or, or_false, false_and, and_false, true_or, or_true]
  refine ⟨fun h => by omega, fun _ => ?_⟩
  refine ⟨by omega, by omega, by omega, ?_⟩
  repeat' first | with_reducible intro _ | with_reducible apply And.intro | (refine rb_S_add_1 ?_; simp only [bk_S_add_1, gr_aloadn, gr_getfield, fm_4_3, NI_4, gr_bipush, gr_ificmp_ge, fm_4_0, gr_iloadn, gr_iastore, fm_4_1, fm_4_2, gr_dup, pA_i, pA_r, gr_iconst, gr_iadd, gr_putfield, fk_4_3, iz_4_3, gr_return, NI_19, ia_19, ln_19, al_19, NI_20, ia_20, ln_20, al_20, NI_21, ia_21, ln_21, al_21, gr_nil, pI_c, pR_c, oI_c, oR_c, lg_i, lg_l, lg_r, lg_n, kI_p, kI_m, lk_0, lk_s, ar_n, ar_c, if_true, if_false, List.replicate, Nat.reduceAdd, Nat.reduceSub, Nat.reduceLeDiff, Nat.reduceEqDiff, Nat.reduceLT, reduceIte, true_and, and_true, true_implies, false_implies, implies_true, eq_self, not_true_eq_false, not_false_eq_true, Bool.false_eq_true, reduceCtorEq, forall_const, List.headD_cons, Nat.zero_add, true_or, or_true, ne_eq, false_and, and_false, false_or, or_false, Nat.reduceBEq, Bool.false_and, Bool.and_false, Bool.or_false, Bool.false_or, Bool.and_self, Bool.true_and, Bool.and_true, Bool.or_self, z10, z01, zm0, nz1, nz0, cnt0])
  exact hq
theorem c_T_fact {d t a b k : Nat} {u : Mem} {Q : Option MV → Mem → Prop} (ht : t < 2) (ha : a < 20) (hb : b < 6) (hk : k < 6) (hq : Q (some (.inl (rd u 22 t ((a * 6 + b) * 6 + k)))) u) : OKm (d + 2) g_T_fact [.inr (.inr (5, t)), .inl (nI a), .inl (nI b), .inl (nI k)] u Q := by
  refine en_T_fact _ (Nat.le_of_ble_eq_true rfl) (rb_T_fact_0 ?_)
  simp only [bk_T_fact_0, gr_iloadn, gr_bipush, gr_invokestatic, ps_0, ps_s, pu_n, pu_s, ct_0, ct_i, ct_l, ct_r, gr_ifCond_eq, gr_ifCond_ne, gr_iconst, gr_ireturn, gr_aloadn, gr_getfield, fm_5_2, NI_5, gr_imul, gr_iadd, gr_iaload, NI_22, ia_22, ln_22, al_22, gr_nil, pI_c, pR_c, oI_c, oR_c, lg_i, lg_l, lg_r, lg_n, kI_p, kI_m, lk_0, lk_s, ar_n, ar_c, if_true, if_false, List.replicate, Nat.reduceAdd, Nat.reduceSub, Nat.reduceLeDiff, Nat.reduceEqDiff, Nat.reduceLT, reduceIte, true_and, and_true, true_implies, false_implies, implies_true, eq_self, not_true_eq_false, not_false_eq_true, Bool.false_eq_true, reduceCtorEq, forall_const, List.headD_cons, Nat.zero_add, true_or, or_true, ne_eq, false_and, and_false, false_or, or_false, Nat.reduceBEq, Bool.false_and, Bool.and_false, Bool.or_false, Bool.false_or, Bool.and_self, Bool.true_and, Bool.and_true, Bool.or_self, z10, z01, zm0, nz1, nz0, cnt0, ht]
  refine c_W_isBelow (fun _ _ => ?_) (fun h => ?_)
  · simp only [gr_iloadn, gr_bipush, gr_invokestatic, ps_0, ps_s, pu_n, pu_s, ct_0, ct_i, ct_l, ct_r, gr_ifCond_eq, gr_ifCond_ne, gr_iconst, gr_ireturn, gr_aloadn, gr_getfield, fm_5_2, NI_5, gr_imul, gr_iadd, gr_iaload, NI_22, ia_22, ln_22, al_22, gr_nil, pI_c, pR_c, oI_c, oR_c, lg_i, lg_l, lg_r, lg_n, kI_p, kI_m, lk_0, lk_s, ar_n, ar_c, if_true, if_false, List.replicate, Nat.reduceAdd, Nat.reduceSub, Nat.reduceLeDiff, Nat.reduceEqDiff, Nat.reduceLT, reduceIte, true_and, and_true, true_implies, false_implies, implies_true, eq_self, not_true_eq_false, not_false_eq_true, Bool.false_eq_true, reduceCtorEq, forall_const, List.headD_cons, Nat.zero_add, true_or, or_true, ne_eq, false_and, and_false, false_or, or_false, Nat.reduceBEq, Bool.false_and, Bool.and_false, Bool.or_false, Bool.false_or, Bool.and_self, Bool.true_and, Bool.and_true, Bool.or_self, z10, z01, zm0, nz1, nz0, cnt0, ht]
    refine c_W_isBelow (fun _ _ => ?_) (fun h => ?_)
    · simp only [gr_iloadn, gr_bipush, gr_invokestatic, ps_0, ps_s, pu_n, pu_s, ct_0, ct_i, ct_l, ct_r, gr_ifCond_eq, gr_ifCond_ne, gr_iconst, gr_ireturn, gr_aloadn, gr_getfield, fm_5_2, NI_5, gr_imul, gr_iadd, gr_iaload, NI_22, ia_22, ln_22, al_22, gr_nil, pI_c, pR_c, oI_c, oR_c, lg_i, lg_l, lg_r, lg_n, kI_p, kI_m, lk_0, lk_s, ar_n, ar_c, if_true, if_false, List.replicate, Nat.reduceAdd, Nat.reduceSub, Nat.reduceLeDiff, Nat.reduceEqDiff, Nat.reduceLT, reduceIte, true_and, and_true, true_implies, false_implies, implies_true, eq_self, not_true_eq_false, not_false_eq_true, Bool.false_eq_true, reduceCtorEq, forall_const, List.headD_cons, Nat.zero_add, true_or, or_true, ne_eq, false_and, and_false, false_or, or_false, Nat.reduceBEq, Bool.false_and, Bool.and_false, Bool.or_false, Bool.false_or, Bool.and_self, Bool.true_and, Bool.and_true, Bool.or_self, z10, z01, zm0, nz1, nz0, cnt0, ht]
      refine c_W_isBelow (fun _ _ => ?_) (fun h => ?_)
      · simp only [gr_iloadn, gr_bipush, gr_invokestatic, ps_0, ps_s, pu_n, pu_s, ct_0, ct_i, ct_l, ct_r, gr_ifCond_eq, gr_ifCond_ne, gr_iconst, gr_ireturn, gr_aloadn, gr_getfield, fm_5_2, NI_5, gr_imul, gr_iadd, gr_iaload, NI_22, ia_22, ln_22, al_22, gr_nil, pI_c, pR_c, oI_c, oR_c, lg_i, lg_l, lg_r, lg_n, kI_p, kI_m, lk_0, lk_s, ar_n, ar_c, if_true, if_false, List.replicate, Nat.reduceAdd, Nat.reduceSub, Nat.reduceLeDiff, Nat.reduceEqDiff, Nat.reduceLT, reduceIte, true_and, and_true, true_implies, false_implies, implies_true, eq_self, not_true_eq_false, not_false_eq_true, Bool.false_eq_true, reduceCtorEq, forall_const, List.headD_cons, Nat.zero_add, true_or, or_true, ne_eq, false_and, and_false, false_or, or_false, Nat.reduceBEq, Bool.false_and, Bool.and_false, Bool.or_false, Bool.false_or, Bool.and_self, Bool.true_and, Bool.and_true, Bool.or_self, z10, z01, zm0, nz1, nz0, cnt0, ht]
        repeat' first | with_reducible intro _ | with_reducible apply And.intro | (refine rb_T_fact_2 ?_; simp only [bk_T_fact_2, gr_iloadn, gr_bipush, gr_invokestatic, ps_0, ps_s, pu_n, pu_s, ct_0, ct_i, ct_l, ct_r, gr_ifCond_eq, gr_ifCond_ne, gr_iconst, gr_ireturn, gr_aloadn, gr_getfield, fm_5_2, NI_5, gr_imul, gr_iadd, gr_iaload, NI_22, ia_22, ln_22, al_22, gr_nil, pI_c, pR_c, oI_c, oR_c, lg_i, lg_l, lg_r, lg_n, kI_p, kI_m, lk_0, lk_s, ar_n, ar_c, if_true, if_false, List.replicate, Nat.reduceAdd, Nat.reduceSub, Nat.reduceLeDiff, Nat.reduceEqDiff, Nat.reduceLT, reduceIte, true_and, and_true, true_implies, false_implies, implies_true, eq_self, not_true_eq_false, not_false_eq_true, Bool.false_eq_true, reduceCtorEq, forall_const, List.headD_cons, Nat.zero_add, true_or, or_true, ne_eq, false_and, and_false, false_or, or_false, Nat.reduceBEq, Bool.false_and, Bool.and_false, Bool.or_false, Bool.false_or, Bool.and_self, Bool.true_and, Bool.and_true, Bool.or_self, z10, z01, zm0, nz1, nz0, cnt0, ht])
        all_goals simp (disch := omega) only [nI_leI, nI_ltI, nI_eq, nI_add, pk_mul, nI_clamp, vp_nI, nI_lt0, nI_ge0, nI_eq0, nI_gt0, nI_le0, nI_neg1, neg1_nI, Nat.not_le, Nat.not_lt, if_true, if_false, true_and, and_true, true_implies, false_implies, implies_true, not_true_eq_false, not_false_eq_true, reduceIte, false_or, or_false, false_and, and_false, true_or, or_true]
        · omega
        · exact hq
      · exfalso
        simp (disch := omega) only [nI_leI, nI_ltI, nI_eq, nI_add, pk_mul, nI_clamp, vp_nI, nI_lt0, nI_ge0, nI_eq0, nI_gt0, nI_le0, nI_neg1, neg1_nI, Nat.not_le, Nat.not_lt, if_true, if_false, true_and, and_true, true_implies, false_implies, implies_true, not_true_eq_false, not_false_eq_true, reduceIte, false_or, or_false, false_and, and_false, true_or, or_true] at h
        omega
    · exfalso
      simp (disch := omega) only [nI_leI, nI_ltI, nI_eq, nI_add, pk_mul, nI_clamp, vp_nI, nI_lt0, nI_ge0, nI_eq0, nI_gt0, nI_le0, nI_neg1, neg1_nI, Nat.not_le, Nat.not_lt, if_true, if_false, true_and, and_true, true_implies, false_implies, implies_true, not_true_eq_false, not_false_eq_true, reduceIte, false_or, or_false, false_and, and_false, true_or, or_true] at h
      omega
  · exfalso
    simp (disch := omega) only [nI_leI, nI_ltI, nI_eq, nI_add, pk_mul, nI_clamp, vp_nI, nI_lt0, nI_ge0, nI_eq0, nI_gt0, nI_le0, nI_neg1, neg1_nI, Nat.not_le, Nat.not_lt, if_true, if_false, true_and, and_true, true_implies, false_implies, implies_true, not_true_eq_false, not_false_eq_true, reduceIte, false_or, or_false, false_and, and_false, true_or, or_true] at h
    omega
end
section
def upN (f : Nat → Nat) (k v : Nat) : Nat → Nat := fun j => if j = k then v else f j
/-- a wall: heights by column, owners and inks by 8 column + layer -/
abbrev WS : Type := (Nat → Nat) × (Nat → Nat) × (Nat → Nat)
/-- what is told: how many posters, their fields (day, column, colour, thick, size, letters), how many tears, their days, their columns, the one that is not (100: none) -/
abbrev SC : Type := Nat × (Nat → Nat → Nat) × Nat × (Nat → Nat) × (Nat → Nat) × Nat
abbrev SC.n (S : SC) : Nat := S.1
abbrev SC.P (S : SC) : Nat → Nat → Nat := S.2.1
abbrev SC.m (S : SC) : Nat := S.2.2.1
abbrev SC.td (S : SC) : Nat → Nat := S.2.2.2.1
abbrev SC.tc (S : SC) : Nat → Nat := S.2.2.2.2.1
abbrev SC.sp (S : SC) : Nat := S.2.2.2.2.2
def w0 : WS := (fun _ => 0, fun _ => 0, fun _ => 0)
def tearW (c : Nat) (w : WS) : WS := (upN w.1 c (w.1 c - 1), w.2)
def layW (k c : Nat) (w : WS) : WS := if w.1 c < 8 then (upN w.1 c (w.1 c + 1), upN w.2.1 (8 * c + w.1 c) k, upN w.2.2 (8 * c + w.1 c) 9) else w
def stickN (k a : Nat) : Nat → WS → WS
  | 0, w => w
  | n + 1, w => if a + n < 6 then layW k (a + n) (stickN k a n w) else stickN k a n w
def sticksN (P : Nat → Nat → Nat) (d : Nat) : Nat → WS → WS
  | 0, w => w
  | n + 1, w => if P n 0 = d then stickN n (P n 1) (P n 4) (sticksN P d n w) else sticksN P d n w
def tearsN (td tc : Nat → Nat) (sp d : Nat) : Nat → WS → WS
  | 0, w => w
  | i + 1, w => if td i = d ∧ i ≠ sp then tearW (tc i) (tearsN td tc sp d i w) else tearsN td tc sp d i w
def openD (S : SC) (d : Nat) (w : WS) : WS := sticksN S.P d S.n (tearsN S.td S.tc S.sp d S.m w)
def lookN (P : Nat → Nat → Nat) (w : WS) (c : Nat) : Nat → Nat → Nat
  | 0, _ => 0
  | l + 1, left => if left < P (w.2.1 (8 * c + (l + 1))) 3 then l + 1 else lookN P w c l (left - P (w.2.1 (8 * c + (l + 1))) 3)
def bleachC (P : Nat → Nat → Nat) (c : Nat) (w : WS) : WS := if 0 < w.1 c then (w.1, w.2.1, upN w.2.2 (8 * c + (w.1 c - 1)) (w.2.2 (8 * c + (w.1 c - 1)) - (3 - P (w.2.1 (8 * c + (w.1 c - 1))) 2))) else w
def bleachN (P : Nat → Nat → Nat) : Nat → WS → WS
  | 0, w => w
  | c + 1, w => bleachC P c (bleachN P c w)
def closeW (P : Nat → Nat → Nat) (rain : Nat) (w : WS) : WS := if rain = 0 then bleachN P 6 w else w
def thickN (P : Nat → Nat → Nat) (w : WS) (c : Nat) : Nat → Nat
  | 0 => 0
  | l + 1 => thickN P w c l + P (w.2.1 (8 * c + l)) 3
def factW (P : Nat → Nat → Nat) (w : WS) (rain c k : Nat) : Int32 :=
  if k = 3 then nI (w.1 c) else if k = 4 then nI (thickN P w c (w.1 c)) else
  if w.1 c = 0 then (if k = 0 then -nI 1 else if k = 1 then -nI 1 else nI 0) else
  if k = 0 then (if w.2.2 (8 * c + lookN P w c (w.1 c - 1) rain) = 0 then -nI 1 else nI (P (w.2.1 (8 * c + lookN P w c (w.1 c - 1) rain)) (5 + (c - P (w.2.1 (8 * c + lookN P w c (w.1 c - 1) rain)) 1)))) else
  if k = 1 then nI (w.2.1 (8 * c + lookN P w c (w.1 c - 1) rain)) else
  if k = 2 then nI (w.1 c - 1 - lookN P w c (w.1 c - 1) rain) else nI (w.2.2 (8 * c + lookN P w c (w.1 c - 1) rain))
def stepD (S : SC) (d rain : Nat) (w : WS) : WS := closeW S.P rain (openD S d w)
def wall (S : SC) (R : Nat → Nat) : Nat → WS
  | 0 => w0
  | d + 1 => stepD S d (R d) (wall S R d)
def fct (S : SC) (R : Nat → Nat) (d c k : Nat) : Int32 := factW S.P (openD S d (wall S R d)) (R d) c k
/-- posters as the text allows them -/
def PV (n : Nat) (P : Nat → Nat → Nat) : Prop := n ≤ 8 ∧ ∀ k, k < n → P k 0 < 20 ∧ P k 1 < 6 ∧ P k 2 < 3 ∧ 1 ≤ P k 3 ∧ P k 3 ≤ 9 ∧ 1 ≤ P k 4 ∧ P k 4 ≤ 4 ∧ ∀ j, j < P k 4 → P k (5 + j) < 8
/-- a wall of these posters -/
def WI (n : Nat) (P : Nat → Nat → Nat) (w : WS) : Prop := ∀ c, c < 6 → w.1 c ≤ 8 ∧ ∀ l, l < w.1 c → w.2.1 (8 * c + l) < n ∧ P (w.2.1 (8 * c + l)) 1 ≤ c ∧ c < P (w.2.1 (8 * c + l)) 1 + P (w.2.1 (8 * c + l)) 4 ∧ w.2.2 (8 * c + l) ≤ 9
theorem WI_0 (n : Nat) (P : Nat → Nat → Nat) : WI n P w0 := fun _ _ => ⟨Nat.zero_le _, fun _ h => absurd h (Nat.not_lt_zero _)⟩
theorem WI_tear {n : Nat} {P : Nat → Nat → Nat} {w : WS} (h : WI n P w) (c : Nat) : WI n P (tearW c w) := by
  intro a ha
  have h1 := h a ha
  simp only [tearW, upN]
  split
  · next e => subst e; exact ⟨by omega, fun l hl => h1.2 l (by omega)⟩
  · exact h1
theorem WI_lay {n : Nat} {P : Nat → Nat → Nat} {w : WS} (h : WI n P w) {k c : Nat} (hk : k < n) (h1 : P k 1 ≤ c) (h2 : c < P k 1 + P k 4) (hc : c < 6) : WI n P (layW k c w) := by
  unfold layW
  split
  · next h8 =>
    intro a ha
    obtain ⟨g1, g2⟩ := h a ha
    by_cases e : a = c
    · subst e
      simp only [upN, if_pos]
      refine ⟨by omega, fun l hl => ?_⟩
      by_cases el : l = w.1 a
      · subst el
        simp only [if_pos]
        exact ⟨hk, h1, h2, Nat.le_refl _⟩
      · rw [if_neg (by omega), if_neg (by omega)]
        exact g2 l (by omega)
    · simp only [upN, if_neg e]
      refine ⟨g1, fun l hl => ?_⟩
      rw [if_neg (by omega), if_neg (by omega)]
      exact g2 l hl
  · exact h
theorem WI_stick {n : Nat} {P : Nat → Nat → Nat} {k : Nat} (hk : k < n) : ∀ (i : Nat) (w : WS), WI n P w → i ≤ P k 4 → WI n P (stickN k (P k 1) i w) := by
  intro i
  induction i with
  | zero => intro w h _; exact h
  | succ i ih =>
    intro w h hi
    simp only [stickN]
    split
    · exact WI_lay (ih w h (by omega)) hk (by omega) (by omega) (by omega)
    · exact ih w h (by omega)
theorem WI_sticks {n : Nat} {P : Nat → Nat → Nat} (d : Nat) : ∀ (i : Nat) (w : WS), WI n P w → i ≤ n → WI n P (sticksN P d i w) := by
  intro i
  induction i with
  | zero => intro w h _; exact h
  | succ i ih =>
    intro w h hi
    simp only [sticksN]
    split
    · exact WI_stick (by omega) _ _ (ih w h (by omega)) (Nat.le_refl _)
    · exact ih w h (by omega)
theorem WI_tears {n : Nat} {P : Nat → Nat → Nat} (td tc : Nat → Nat) (sp d : Nat) : ∀ (i : Nat) (w : WS), WI n P w → WI n P (tearsN td tc sp d i w) := by
  intro i
  induction i with
  | zero => intro w h; exact h
  | succ i ih =>
    intro w h
    simp only [tearsN]
    split
    · exact WI_tear (ih w h) _
    · exact ih w h
theorem WI_open {S : SC} {d : Nat} {w : WS} (h : WI S.n S.P w) : WI S.n S.P (openD S d w) := WI_sticks d _ _ (WI_tears _ _ _ d _ _ h) (Nat.le_refl _)
theorem WI_bleach {n : Nat} {P : Nat → Nat → Nat} {w : WS} (h : WI n P w) (c : Nat) : WI n P (bleachC P c w) := by
  unfold bleachC
  split
  · intro a ha
    obtain ⟨g1, g2⟩ := h a ha
    refine ⟨g1, fun l hl => ?_⟩
    obtain ⟨q1, q2, q3, q4⟩ := g2 l hl
    refine ⟨q1, q2, q3, ?_⟩
    simp only [upN]
    split
    · next e => rw [← e]; omega
    · exact q4
  · exact h
theorem WI_bleachN {n : Nat} {P : Nat → Nat → Nat} : ∀ (c : Nat) (w : WS), WI n P w → WI n P (bleachN P c w) := by
  intro c
  induction c with
  | zero => intro w h; exact h
  | succ c ih => intro w h; exact WI_bleach (ih w h) c
theorem WI_step {S : SC} {d rain : Nat} {w : WS} (h : WI S.n S.P w) : WI S.n S.P (stepD S d rain w) := by
  unfold stepD closeW
  split
  · exact WI_bleachN 6 _ (WI_open h)
  · exact WI_open h
theorem WI_wall (S : SC) (R : Nat → Nat) : ∀ d, WI S.n S.P (wall S R d) := by
  intro d
  induction d with
  | zero => exact WI_0 _ _
  | succ d ih => exact WI_step ih
theorem look_lt (P : Nat → Nat → Nat) (w : WS) (c : Nat) : ∀ l left, lookN P w c l left ≤ l := by
  intro l
  induction l with
  | zero => intro left; exact Nat.le_refl _
  | succ l ih => intro left; simp only [lookN]; split; exact Nat.le_refl _; exact Nat.le_succ_of_le (ih _)
/-- the heights never pass the posters that have been stuck -/
def stuckN (P : Nat → Nat → Nat) (d : Nat) : Nat → Nat
  | 0 => 0
  | n + 1 => stuckN P d n + (if P n 0 < d then 1 else 0)
-- how a wall lies in memory: heights, owners, inks in families a, b, e
def PlG (a b e : Nat) (u : Mem) (t : Nat) (w : WS) : Prop := ∀ c, c < 6 → rd u a t c = nI (w.1 c) ∧ w.1 c ≤ 8 ∧ ∀ l, l < w.1 c → rd u b t (8 * c + l) = nI (w.2.1 (8 * c + l)) ∧ rd u e t (8 * c + l) = nI (w.2.2 (8 * c + l))
theorem PlG.same {a b e : Nat} {u v : Mem} {t t' : Nat} {w : WS} (h : PlG a b e u t w) (h1 : ∀ j, j < 6 → rd v a t' j = rd u a t j) (h2 : ∀ j, j < 48 → rd v b t' j = rd u b t j) (h3 : ∀ j, j < 48 → rd v e t' j = rd u e t j) : PlG a b e v t' w := by
  intro c hc
  obtain ⟨g1, g2, g3⟩ := h c hc
  refine ⟨by rw [h1 c hc, g1], g2, fun l hl => ?_⟩
  rw [h2 _ (by omega), h3 _ (by omega)]
  exact g3 l hl
theorem PlG.tear {a b e : Nat} {u : Mem} {t : Nat} {w : WS} (h : PlG a b e u t w) (hab : b ≠ a) (hae : e ≠ a) {c : Nat} (hc : c < 6) : PlG a b e (wr u a t c (nI (w.1 c - 1))) t (tearW c w) := by
  intro x hx
  obtain ⟨g1, g2, g3⟩ := h x hx
  simp only [rd_wr, tearW, upN, hab, hae, false_and, if_false, true_and]
  by_cases e1 : x = c
  · subst e1
    simp only [if_pos]
    exact ⟨trivial, by omega, fun l hl => g3 l (by omega)⟩
  · simp only [if_neg e1]
    exact ⟨g1, g2, g3⟩
theorem PlG.lay {a b e : Nat} {u : Mem} {t : Nat} {w : WS} (h : PlG a b e u t w) (hab : b ≠ a) (hae : e ≠ a) (hbe : b ≠ e) {c k : Nat} (hc : c < 6) (h8 : w.1 c < 8) : PlG a b e (wr (wr (wr u b t (8 * c + w.1 c) (nI k)) e t (8 * c + w.1 c) (nI 9)) a t c (nI (w.1 c + 1))) t (layW k c w) := by
  intro x hx
  obtain ⟨g1, g2, g3⟩ := h x hx
  simp only [rd_wr, layW, if_pos h8, upN, hab, hae, hbe, Ne.symm hab, Ne.symm hae, Ne.symm hbe, false_and, if_false, true_and]
  by_cases e1 : x = c
  · subst e1
    simp only [if_pos]
    refine ⟨trivial, by omega, fun l hl => ?_⟩
    by_cases el : l = w.1 x
    · subst el
      simp
    · rw [if_neg (by omega), if_neg (by omega), if_neg (by omega), if_neg (by omega)]
      exact g3 l (by omega)
  · simp only [if_neg e1]
    refine ⟨g1, g2, fun l hl => ?_⟩
    rw [if_neg (by omega), if_neg (by omega), if_neg (by omega), if_neg (by omega)]
    exact g3 l hl
theorem PlG.bleach {a b e : Nat} {u : Mem} {t : Nat} {w : WS} (h : PlG a b e u t w) (hae : a ≠ e) (hbe : b ≠ e) {P : Nat → Nat → Nat} {c : Nat} (hc : c < 6) (h0 : 0 < w.1 c) : PlG a b e (wr u e t (8 * c + (w.1 c - 1)) (nI (w.2.2 (8 * c + (w.1 c - 1)) - (3 - P (w.2.1 (8 * c + (w.1 c - 1))) 2)))) t (bleachC P c w) := by
  have h8 := (h c hc).2.1
  intro x hx
  obtain ⟨g1, g2, g3⟩ := h x hx
  simp only [rd_wr, bleachC, if_pos h0, upN, hae, hbe, false_and, if_false, true_and]
  refine ⟨g1, g2, fun l hl => ?_⟩
  by_cases e1 : 8 * x + l = 8 * c + (w.1 c - 1)
  · rw [if_pos e1, if_pos e1]
    exact ⟨(g3 l hl).1, rfl⟩
  · rw [if_neg e1, if_neg e1]
    exact g3 l hl
end
section
/-- what a change of pile t may change -/
abbrev FQ (t : Nat) : Nat → Nat → Nat → Prop := fun c i _ => (c = 10 ∨ c = 11 ∨ c = 12) ∧ i = t
/-- what playing on stage t may change -/
abbrev FP (t : Nat) : Nat → Nat → Nat → Prop := fun c i _ => (c = 10 ∨ c = 11 ∨ c = 12 ∨ c = 22) ∧ i = t
abbrev Pl (u : Mem) (t : Nat) (w : WS) : Prop := PlG 10 11 12 u t w
def Bl (u : Mem) (n : Nat) (P : Nat → Nat → Nat) : Prop := rd u 2 0 5 = nI n ∧ ∀ k, k < n → (rd u 0 k 1 = nI (P k 0) ∧ rd u 0 k 2 = nI (P k 1) ∧ rd u 0 k 3 = nI (P k 2) ∧ rd u 0 k 4 = nI (P k 3) ∧ rd u 0 k 5 = nI (P k 4) ∧ ∀ j, j < P k 4 → rd u 9 k j = nI (P k (5 + j)))
def Tr (u : Mem) (S : SC) : Prop := rd u 2 0 8 = nI S.m ∧ S.m ≤ 10 ∧ rd u 2 0 9 = (if S.sp = 100 then -nI 1 else nI S.sp) ∧ S.sp ≤ 100 ∧ ∀ i, i < S.m → rd u 16 0 i = nI (S.td i) ∧ rd u 17 0 i = nI (S.tc i) ∧ S.td i < 20 ∧ S.tc i < 6
def Pn (u : Mem) (S : SC) : Prop := PV S.n S.P ∧ Bl u S.n S.P ∧ Tr u S
theorem Pn.keep {u v : Mem} {S : SC} (h : Pn u S) (hv : ∀ c i j, (c = 0 ∨ c = 2 ∨ c = 9 ∨ c = 16 ∨ c = 17) → rd v c i j = rd u c i j) : Pn v S := by
  obtain ⟨h1, ⟨h2, h3⟩, h4, h5, h6, h7, h8⟩ := h
  refine ⟨h1, ⟨by rw [hv _ _ _ (by simp)]; exact h2, fun k hk => ?_⟩, by rw [hv _ _ _ (by simp)]; exact h4, h5, by rw [hv _ _ _ (by simp)]; exact h6, h7, fun i hi => ?_⟩
  · obtain ⟨g1, g2, g3, g4, g5, g6⟩ := h3 k hk
    refine ⟨?_, ?_, ?_, ?_, ?_, fun j hj => ?_⟩
    all_goals rw [hv _ _ _ (by simp)]
    all_goals first | assumption | exact g6 j hj
  · rw [hv _ _ _ (by simp), hv _ _ _ (by simp)]; exact h8 i hi
theorem Pn.sm {u v : Mem} {S : SC} {t : Nat} (h : Pn u S) (hs : Sm (FP t) u v) : Pn v S := h.keep fun c i j hc => hs.1 c i j (by rintro ⟨h1, -⟩; omega)
theorem nI_dec (n : Nat) : nI (n + 1) + -nI 1 = nI n := pk_m1 n
theorem nI_sb1 (n : Nat) : nI (n + 1) - nI 1 = nI n := nI_pred n
theorem nI_0m1 : nI 0 - nI 1 = -nI 1 := by decide
theorem neg1_lt : ((-nI 1 : Int32) < 0) = True := by decide
theorem neg1_le : ((-nI 1 : Int32) ≤ 0) = True := by decide
set_option maxHeartbeats 4000000 in
set_option maxRecDepth 100000 in
theorem c_P_clear {d t : Nat} {u : Mem} {Q : Option MV → Mem → Prop} (ht : t < 12) (hq : ∀ v, Pl v t w0 → Sm (FQ t) u v → Q none v) : OKm (d + 2) g_P_clear [.inr (.inr (1, t))] u Q := by
  refine en_P_clear _ (Nat.le_of_ble_eq_true rfl) (rb_P_clear_0 ?_)
  simp only [bk_P_clear_0, gr_aloadn, gr_getfield, fm_1_0, NI_1, gr_iconst, gr_invokestatic, ps_0, ps_s, pu_n, pu_s, ct_0, ct_i, ct_l, ct_r, gr_return, NI_10, ia_10, ln_10, al_10, gr_nil, pI_c, pR_c, oI_c, oR_c, lg_i, lg_l, lg_r, lg_n, kI_p, kI_m, lk_0, lk_s, ar_n, ar_c, if_true, if_false, List.replicate, Nat.reduceAdd, Nat.reduceSub, Nat.reduceLeDiff, Nat.reduceEqDiff, Nat.reduceLT, reduceIte, true_and, and_true, true_implies, false_implies, implies_true, eq_self, not_true_eq_false, not_false_eq_true, Bool.false_eq_true, reduceCtorEq, forall_const, List.headD_cons, Nat.zero_add, true_or, or_true, ne_eq, false_and, and_false, false_or, or_false, Nat.reduceBEq, Bool.false_and, Bool.and_false, Bool.or_false, Bool.false_or, Bool.and_self, Bool.true_and, Bool.and_true, Bool.or_self, z10, z01, zm0, nz1, nz0, cnt0, ht]
  refine c_J_fill rfl ht (by rw [ln_10]; omega) (fun v h1 h2 => ?_)
  simp only [gr_aloadn, gr_getfield, fm_1_0, NI_1, gr_iconst, gr_invokestatic, ps_0, ps_s, pu_n, pu_s, ct_0, ct_i, ct_l, ct_r, gr_return, NI_10, ia_10, ln_10, al_10, gr_nil, pI_c, pR_c, oI_c, oR_c, lg_i, lg_l, lg_r, lg_n, kI_p, kI_m, lk_0, lk_s, ar_n, ar_c, if_true, if_false, List.replicate, Nat.reduceAdd, Nat.reduceSub, Nat.reduceLeDiff, Nat.reduceEqDiff, Nat.reduceLT, reduceIte, true_and, and_true, true_implies, false_implies, implies_true, eq_self, not_true_eq_false, not_false_eq_true, Bool.false_eq_true, reduceCtorEq, forall_const, List.headD_cons, Nat.zero_add, true_or, or_true, ne_eq, false_and, and_false, false_or, or_false, Nat.reduceBEq, Bool.false_and, Bool.and_false, Bool.or_false, Bool.false_or, Bool.and_self, Bool.true_and, Bool.and_true, Bool.or_self, z10, z01, zm0, nz1, nz0, cnt0]
  refine hq v (fun c hc => ⟨h1 c hc, Nat.zero_le _, fun l hl => absurd hl (Nat.not_lt_zero _)⟩) (h2.wk ?_)
  rintro a b _ ⟨rfl, rfl⟩
  exact ⟨Or.inl rfl, rfl⟩
set_option maxHeartbeats 4000000 in
set_option maxRecDepth 100000 in
theorem c_P_become {d t t' : Nat} {u : Mem} {Q : Option MV → Mem → Prop} (ht : t < 12) (ht' : t' < 12) (hq : ∀ v, (∀ j, j < 6 → rd v 10 t j = rd u 10 t' j) → (∀ j, j < 48 → rd v 11 t j = rd u 11 t' j) → (∀ j, j < 48 → rd v 12 t j = rd u 12 t' j) → Sm (FQ t) u v → Q none v) : OKm (d + 1) g_P_become [.inr (.inr (1, t)), .inr (.inr (1, t'))] u Q := by
  refine en_P_become _ (Nat.le_of_ble_eq_true rfl) (rb_P_become_0 ?_)
  simp only [bk_P_become_0, gr_aloadn, gr_getfield, fm_1_0, NI_1, gr_iconst, gr_bipush, gr_invokestatic, ps_0, ps_s, pu_n, pu_s, ct_0, ct_i, ct_l, ct_r, fm_1_1, fm_1_2, gr_return, NI_10, ia_10, ln_10, al_10, NI_11, ia_11, ln_11, al_11, NI_12, ia_12, ln_12, al_12, gr_nil, pI_c, pR_c, oI_c, oR_c, lg_i, lg_l, lg_r, lg_n, kI_p, kI_m, lk_0, lk_s, ar_n, ar_c, if_true, if_false, List.replicate, Nat.reduceAdd, Nat.reduceSub, Nat.reduceLeDiff, Nat.reduceEqDiff, Nat.reduceLT, reduceIte, true_and, and_true, true_implies, false_implies, implies_true, eq_self, not_true_eq_false, not_false_eq_true, Bool.false_eq_true, reduceCtorEq, forall_const, List.headD_cons, Nat.zero_add, true_or, or_true, ne_eq, false_and, and_false, false_or, or_false, Nat.reduceBEq, Bool.false_and, Bool.and_false, Bool.or_false, Bool.false_or, Bool.and_self, Bool.true_and, Bool.and_true, Bool.or_self, z10, z01, zm0, nz1, nz0, cnt0, ht, ht']
  simp (disch := omega) only [nI_leI, nI_ltI, nI_eq, nI_add, pk_mul, nI_clamp, vp_nI, nI_lt0, nI_ge0, nI_eq0, nI_gt0, nI_le0, nI_neg1, neg1_nI, Nat.not_le, Nat.not_lt, if_true, if_false, true_and, and_true, true_implies, false_implies, implies_true, not_true_eq_false, not_false_eq_true, reduceIte, false_or, or_false, false_and, and_false, true_or, or_true, Nat.reduceAdd, Nat.reduceLeDiff]
  refine hq _ (fun j hj => ?_) (fun j hj => ?_) (fun j hj => ?_) ⟨fun c i j hn => ?_, fun j => rfl⟩
  · simp [rd_cpy, hj]
  · simp [rd_cpy, hj]
  · simp [rd_cpy, hj]
  · simp only [rd_cpy]
    rw [if_neg (fun z => hn ⟨by omega, z.2⟩), if_neg (fun z => hn ⟨by omega, z.2⟩), if_neg (fun z => hn ⟨by omega, z.2⟩)]
set_option maxHeartbeats 4000000 in
set_option maxRecDepth 100000 in
theorem c_P_pull {d t c : Nat} {w : WS} {u : Mem} {Q : Option MV → Mem → Prop} (ht : t < 12) (hc : c < 6) (hp : Pl u t w) (hq : ∀ v, Pl v t (tearW c w) → Sm (FQ t) u v → Q none v) : OKm (d + 1) g_P_pull [.inr (.inr (1, t)), .inl (nI c)] u Q := by
  obtain ⟨g1, g2, g3⟩ := hp c hc
  refine en_P_pull _ (Nat.le_of_ble_eq_true rfl) (rb_P_pull_0 ?_)
  simp only [bk_P_pull_0, gr_iloadn, gr_ifCond_lt, gr_bipush, gr_ificmp_ge, gr_aloadn, gr_getfield, fm_1_0, NI_1, gr_iaload, gr_ifCond_le, gr_dup2, pA_i, pA_r, gr_iconst, gr_isub, gr_iastore, gr_return, NI_10, ia_10, ln_10, al_10, gr_nil, pI_c, pR_c, oI_c, oR_c, lg_i, lg_l, lg_r, lg_n, kI_p, kI_m, lk_0, lk_s, ar_n, ar_c, if_true, if_false, List.replicate, Nat.reduceAdd, Nat.reduceSub, Nat.reduceLeDiff, Nat.reduceEqDiff, Nat.reduceLT, reduceIte, true_and, and_true, true_implies, false_implies, implies_true, eq_self, not_true_eq_false, not_false_eq_true, Bool.false_eq_true, reduceCtorEq, forall_const, List.headD_cons, Nat.zero_add, true_or, or_true, ne_eq, false_and, and_false, false_or, or_false, Nat.reduceBEq, Bool.false_and, Bool.and_false, Bool.or_false, Bool.false_or, Bool.and_self, Bool.true_and, Bool.and_true, Bool.or_self, z10, z01, zm0, nz1, nz0, cnt0, ht]
  simp (disch := omega) only [nI_leI, nI_ltI, nI_eq, nI_add, pk_mul, nI_clamp, vp_nI, nI_lt0, nI_ge0, nI_eq0, nI_gt0, nI_le0, nI_neg1, neg1_nI, Nat.not_le, Nat.not_lt, if_true, if_false, true_and, and_true, true_implies, false_implies, implies_true, not_true_eq_false, not_false_eq_true, reduceIte, false_or, or_false, false_and, and_false, true_or, or_true, g1]
  refine ⟨fun h => by omega, fun _ => ⟨hc, fun h => ?_, fun h => ?_⟩⟩
  · repeat' first | with_reducible intro _ | with_reducible apply And.intro | (refine rb_P_pull_1 ?_; simp only [bk_P_pull_1, gr_iloadn, gr_ifCond_lt, gr_bipush, gr_ificmp_ge, gr_aloadn, gr_getfield, fm_1_0, NI_1, gr_iaload, gr_ifCond_le, gr_dup2, pA_i, pA_r, gr_iconst, gr_isub, gr_iastore, gr_return, NI_10, ia_10, ln_10, al_10, gr_nil, pI_c, pR_c, oI_c, oR_c, lg_i, lg_l, lg_r, lg_n, kI_p, kI_m, lk_0, lk_s, ar_n, ar_c, if_true, if_false, List.replicate, Nat.reduceAdd, Nat.reduceSub, Nat.reduceLeDiff, Nat.reduceEqDiff, Nat.reduceLT, reduceIte, true_and, and_true, true_implies, false_implies, implies_true, eq_self, not_true_eq_false, not_false_eq_true, Bool.false_eq_true, reduceCtorEq, forall_const, List.headD_cons, Nat.zero_add, true_or, or_true, ne_eq, false_and, and_false, false_or, or_false, Nat.reduceBEq, Bool.false_and, Bool.and_false, Bool.or_false, Bool.false_or, Bool.and_self, Bool.true_and, Bool.and_true, Bool.or_self, z10, z01, zm0, nz1, nz0, cnt0])
    refine hq u ?_ Sm.rf
    intro x hx
    obtain ⟨q1, q2, q3⟩ := hp x hx
    simp only [tearW, upN]
    by_cases e : x = c
    · subst e; rw [if_pos rfl, h]; rw [h] at q1; exact ⟨q1, by omega, fun l hl => by omega⟩
    · rw [if_neg e]; exact ⟨q1, q2, q3⟩
  · repeat' first | with_reducible intro _ | with_reducible apply And.intro | (refine rb_P_pull_1 ?_; simp only [bk_P_pull_1, gr_iloadn, gr_ifCond_lt, gr_bipush, gr_ificmp_ge, gr_aloadn, gr_getfield, fm_1_0, NI_1, gr_iaload, gr_ifCond_le, gr_dup2, pA_i, pA_r, gr_iconst, gr_isub, gr_iastore, gr_return, NI_10, ia_10, ln_10, al_10, gr_nil, pI_c, pR_c, oI_c, oR_c, lg_i, lg_l, lg_r, lg_n, kI_p, kI_m, lk_0, lk_s, ar_n, ar_c, if_true, if_false, List.replicate, Nat.reduceAdd, Nat.reduceSub, Nat.reduceLeDiff, Nat.reduceEqDiff, Nat.reduceLT, reduceIte, true_and, and_true, true_implies, false_implies, implies_true, eq_self, not_true_eq_false, not_false_eq_true, Bool.false_eq_true, reduceCtorEq, forall_const, List.headD_cons, Nat.zero_add, true_or, or_true, ne_eq, false_and, and_false, false_or, or_false, Nat.reduceBEq, Bool.false_and, Bool.and_false, Bool.or_false, Bool.false_or, Bool.and_self, Bool.true_and, Bool.and_true, Bool.or_self, z10, z01, zm0, nz1, nz0, cnt0])
    · exact hc
    · exact hc
    have e : nI (w.1 c) - nI 1 = nI (w.1 c - 1) := pk_sub (by omega)
    rw [e]
    exact hq _ (hp.tear (by decide) (by decide) hc) (Sm.rf.wr _ ⟨Or.inl rfl, rfl⟩)
set_option maxHeartbeats 4000000 in
set_option maxRecDepth 100000 in
theorem c_P_put {d t k a z : Nat} {w : WS} {u : Mem} {Q : Option MV → Mem → Prop} (ht : t < 12) (hk : k < 8) (ha : a < 6) (hz : z ≤ 4) (hra : rd u 0 k 2 = nI a) (hrz : rd u 0 k 5 = nI z) (hp : Pl u t w) (hq : ∀ v, Pl v t (stickN k a z w) → Sm (FQ t) u v → Q none v) : OKm (d + 1) g_P_put [.inr (.inr (1, t)), .inl (nI k), .inr (.inr (0, k))] u Q := by
  refine en_P_put _ (Nat.le_of_ble_eq_true rfl) (rb_P_put_0 ?_)
  simp only [bk_P_put_0, gr_iconst, gr_istoren, st1, clr_0, clr_s, sk_0, sk_s, gr_iloadn, gr_aloadn, gr_getfield, fm_0_5, NI_0, gr_ificmp_ge, fm_0_2, gr_iadd, gr_istore, gr_iload, gr_ifCond_lt, gr_bipush, fm_1_0, NI_1, gr_iaload, gr_imul, fm_1_1, gr_iastore, fm_1_2, gr_dup2, pA_i, pA_r, gr_iinc, gr_goto, gr_return, NI_10, ia_10, ln_10, al_10, NI_11, ia_11, ln_11, al_11, NI_12, ia_12, ln_12, al_12, gr_nil, pI_c, pR_c, oI_c, oR_c, lg_i, lg_l, lg_r, lg_n, kI_p, kI_m, lk_0, lk_s, ar_n, ar_c, if_true, if_false, List.replicate, Nat.reduceAdd, Nat.reduceSub, Nat.reduceLeDiff, Nat.reduceEqDiff, Nat.reduceLT, reduceIte, true_and, and_true, true_implies, false_implies, implies_true, eq_self, not_true_eq_false, not_false_eq_true, Bool.false_eq_true, reduceCtorEq, forall_const, List.headD_cons, Nat.zero_add, true_or, or_true, ne_eq, false_and, and_false, false_or, or_false, Nat.reduceBEq, Bool.false_and, Bool.and_false, Bool.or_false, Bool.false_or, Bool.and_self, Bool.true_and, Bool.and_true, Bool.or_self, z10, z01, zm0, nz1, nz0, cnt0, ht]
  have loop : ∀ (n i : Nat) (v : Mem), i + n = z → Pl v t (stickN k a i w) → Sm (FQ t) u v → RunB (d + 1) Y_P_put 1 [some (.inr (.inr (1, t))), some (.inl (nI k)), some (.inr (.inr (0, k))), some (.inl (nI i)), none, none] [] v Q := by
    intro n
    induction n with
    | zero =>
      intro i v hi hv hs
      have h5 : rd v 0 k 5 = nI z := by rw [hs.1 _ _ _ (by rintro ⟨h, -⟩; omega)]; exact hrz
      (refine rb_P_put_1 ?_; simp only [bk_P_put_1, gr_iconst, gr_istoren, st1, clr_0, clr_s, sk_0, sk_s, gr_iloadn, gr_aloadn, gr_getfield, fm_0_5, NI_0, gr_ificmp_ge, fm_0_2, gr_iadd, gr_istore, gr_iload, gr_ifCond_lt, gr_bipush, fm_1_0, NI_1, gr_iaload, gr_imul, fm_1_1, gr_iastore, fm_1_2, gr_dup2, pA_i, pA_r, gr_iinc, gr_goto, gr_return, NI_10, ia_10, ln_10, al_10, NI_11, ia_11, ln_11, al_11, NI_12, ia_12, ln_12, al_12, gr_nil, pI_c, pR_c, oI_c, oR_c, lg_i, lg_l, lg_r, lg_n, kI_p, kI_m, lk_0, lk_s, ar_n, ar_c, if_true, if_false, List.replicate, Nat.reduceAdd, Nat.reduceSub, Nat.reduceLeDiff, Nat.reduceEqDiff, Nat.reduceLT, reduceIte, true_and, and_true, true_implies, false_implies, implies_true, eq_self, not_true_eq_false, not_false_eq_true, Bool.false_eq_true, reduceCtorEq, forall_const, List.headD_cons, Nat.zero_add, true_or, or_true, ne_eq, false_and, and_false, false_or, or_false, Nat.reduceBEq, Bool.false_and, Bool.and_false, Bool.or_false, Bool.false_or, Bool.and_self, Bool.true_and, Bool.and_true, Bool.or_self, z10, z01, zm0, nz1, nz0, cnt0, ht, hk, h5])
      refine ⟨fun _ => ?_, fun h => absurd (nI_le (by omega) (by omega)) h⟩
      repeat' first | with_reducible intro _ | with_reducible apply And.intro | (refine rb_P_put_3 ?_; simp only [bk_P_put_3, gr_iconst, gr_istoren, st1, clr_0, clr_s, sk_0, sk_s, gr_iloadn, gr_aloadn, gr_getfield, fm_0_5, NI_0, gr_ificmp_ge, fm_0_2, gr_iadd, gr_istore, gr_iload, gr_ifCond_lt, gr_bipush, fm_1_0, NI_1, gr_iaload, gr_imul, fm_1_1, gr_iastore, fm_1_2, gr_dup2, pA_i, pA_r, gr_iinc, gr_goto, gr_return, NI_10, ia_10, ln_10, al_10, NI_11, ia_11, ln_11, al_11, NI_12, ia_12, ln_12, al_12, gr_nil, pI_c, pR_c, oI_c, oR_c, lg_i, lg_l, lg_r, lg_n, kI_p, kI_m, lk_0, lk_s, ar_n, ar_c, if_true, if_false, List.replicate, Nat.reduceAdd, Nat.reduceSub, Nat.reduceLeDiff, Nat.reduceEqDiff, Nat.reduceLT, reduceIte, true_and, and_true, true_implies, false_implies, implies_true, eq_self, not_true_eq_false, not_false_eq_true, Bool.false_eq_true, reduceCtorEq, forall_const, List.headD_cons, Nat.zero_add, true_or, or_true, ne_eq, false_and, and_false, false_or, or_false, Nat.reduceBEq, Bool.false_and, Bool.and_false, Bool.or_false, Bool.false_or, Bool.and_self, Bool.true_and, Bool.and_true, Bool.or_self, z10, z01, zm0, nz1, nz0, cnt0])
      rw [show z = i by omega] at hq
      exact hq v hv hs
    | succ n ih =>
      intro i v hi hv hs
      have h5 : rd v 0 k 5 = nI z := by rw [hs.1 _ _ _ (by rintro ⟨h, -⟩; omega)]; exact hrz
      have h2 : rd v 0 k 2 = nI a := by rw [hs.1 _ _ _ (by rintro ⟨h, -⟩; omega)]; exact hra
      have nxt : ∀ (v' : Mem) (x y : Option MV), Pl v' t (stickN k a (i + 1) w) → Sm (FQ t) u v' → RunB (d + 1) Y_P_put 2 [some (.inr (.inr (1, t))), some (.inl (nI k)), some (.inr (.inr (0, k))), some (.inl (nI i)), x, y] [] v' Q := by
        intro v' x y hv' hs'
        (refine rb_P_put_2 ?_; simp only [bk_P_put_2, gr_iconst, gr_istoren, st1, clr_0, clr_s, sk_0, sk_s, gr_iloadn, gr_aloadn, gr_getfield, fm_0_5, NI_0, gr_ificmp_ge, fm_0_2, gr_iadd, gr_istore, gr_iload, gr_ifCond_lt, gr_bipush, fm_1_0, NI_1, gr_iaload, gr_imul, fm_1_1, gr_iastore, fm_1_2, gr_dup2, pA_i, pA_r, gr_iinc, gr_goto, gr_return, NI_10, ia_10, ln_10, al_10, NI_11, ia_11, ln_11, al_11, NI_12, ia_12, ln_12, al_12, gr_nil, pI_c, pR_c, oI_c, oR_c, lg_i, lg_l, lg_r, lg_n, kI_p, kI_m, lk_0, lk_s, ar_n, ar_c, if_true, if_false, List.replicate, Nat.reduceAdd, Nat.reduceSub, Nat.reduceLeDiff, Nat.reduceEqDiff, Nat.reduceLT, reduceIte, true_and, and_true, true_implies, false_implies, implies_true, eq_self, not_true_eq_false, not_false_eq_true, Bool.false_eq_true, reduceCtorEq, forall_const, List.headD_cons, Nat.zero_add, true_or, or_true, ne_eq, false_and, and_false, false_or, or_false, Nat.reduceBEq, Bool.false_and, Bool.and_false, Bool.or_false, Bool.false_or, Bool.and_self, Bool.true_and, Bool.and_true, Bool.or_self, z10, z01, zm0, nz1, nz0, cnt0])
        rw [nI_add]
        exact run_le (ih (i + 1) v' (by omega) hv' hs') (by simp [leL])
      simp only [stickN] at nxt
      (refine rb_P_put_1 ?_; simp only [bk_P_put_1, gr_iconst, gr_istoren, st1, clr_0, clr_s, sk_0, sk_s, gr_iloadn, gr_aloadn, gr_getfield, fm_0_5, NI_0, gr_ificmp_ge, fm_0_2, gr_iadd, gr_istore, gr_iload, gr_ifCond_lt, gr_bipush, fm_1_0, NI_1, gr_iaload, gr_imul, fm_1_1, gr_iastore, fm_1_2, gr_dup2, pA_i, pA_r, gr_iinc, gr_goto, gr_return, NI_10, ia_10, ln_10, al_10, NI_11, ia_11, ln_11, al_11, NI_12, ia_12, ln_12, al_12, gr_nil, pI_c, pR_c, oI_c, oR_c, lg_i, lg_l, lg_r, lg_n, kI_p, kI_m, lk_0, lk_s, ar_n, ar_c, if_true, if_false, List.replicate, Nat.reduceAdd, Nat.reduceSub, Nat.reduceLeDiff, Nat.reduceEqDiff, Nat.reduceLT, reduceIte, true_and, and_true, true_implies, false_implies, implies_true, eq_self, not_true_eq_false, not_false_eq_true, Bool.false_eq_true, reduceCtorEq, forall_const, List.headD_cons, Nat.zero_add, true_or, or_true, ne_eq, false_and, and_false, false_or, or_false, Nat.reduceBEq, Bool.false_and, Bool.and_false, Bool.or_false, Bool.false_or, Bool.and_self, Bool.true_and, Bool.and_true, Bool.or_self, z10, z01, zm0, nz1, nz0, cnt0, ht, hk, h5, h2])
      refine ⟨fun h => absurd h (nI_ge (by omega) (by omega)), fun _ => ?_⟩
      by_cases h6 : a + i < 6
      · obtain ⟨g1, g2, g3⟩ := hv (a + i) h6
        simp (disch := omega) only [nI_leI, nI_ltI, nI_eq, nI_add, pk_mul, nI_clamp, vp_nI, nI_lt0, nI_ge0, nI_eq0, nI_gt0, nI_le0, nI_neg1, neg1_nI, Nat.not_le, Nat.not_lt, if_true, if_false, true_and, and_true, true_implies, false_implies, implies_true, not_true_eq_false, not_false_eq_true, reduceIte, false_or, or_false, false_and, and_false, true_or, or_true, g1]
        refine ⟨fun h => by omega, fun _ => ⟨h6, fun h => ?_, fun h => ⟨by omega, by omega, ?_⟩⟩⟩
        · refine nxt v _ _ ?_ hs
          rw [if_pos h6, layW, if_neg (by omega)]
          exact hv
        · have e8 : (a + i) * 8 + (stickN k a i w).1 (a + i) = 8 * (a + i) + (stickN k a i w).1 (a + i) := by omega
          rw [e8]
          simp only [rd_wr]
          simp (disch := omega) only [nI_leI, nI_ltI, nI_eq, nI_add, pk_mul, nI_clamp, vp_nI, nI_lt0, nI_ge0, nI_eq0, nI_gt0, nI_le0, nI_neg1, neg1_nI, Nat.not_le, Nat.not_lt, if_true, if_false, true_and, and_true, true_implies, false_implies, implies_true, not_true_eq_false, not_false_eq_true, reduceIte, false_or, or_false, false_and, and_false, true_or, or_true, g1, Nat.reduceEqDiff]
          refine ⟨by omega, h6, h6, nxt _ _ _ ?_ ((hs.wr _ ⟨Or.inr (Or.inl rfl), rfl⟩).wr _ ⟨Or.inr (Or.inr rfl), rfl⟩ |>.wr _ ⟨Or.inl rfl, rfl⟩)⟩
          rw [if_pos h6]
          exact hv.lay (by decide) (by decide) (by decide) h6 (by omega)
      · simp (disch := omega) only [nI_leI, nI_ltI, nI_eq, nI_add, pk_mul, nI_clamp, vp_nI, nI_lt0, nI_ge0, nI_eq0, nI_gt0, nI_le0, nI_neg1, neg1_nI, Nat.not_le, Nat.not_lt, if_true, if_false, true_and, and_true, true_implies, false_implies, implies_true, not_true_eq_false, not_false_eq_true, reduceIte, false_or, or_false, false_and, and_false, true_or, or_true]
        refine ⟨fun _ => nxt v _ _ (by rw [if_neg h6]; exact hv) hs, fun h => by omega⟩
  exact run_le (loop z 0 u (by omega) hp Sm.rf) (by simp [leL])
set_option maxHeartbeats 4000000 in
set_option maxRecDepth 100000 in
theorem c_T_layerSeen {d t c r : Nat} {S : SC} {w : WS} {u : Mem} {Q : Option MV → Mem → Prop} (ht : t < 2) (hc : c < 6) (hr : r < 2 ^ 31) (hn : Pn u S) (hp : Pl u t w) (hw : WI S.n S.P w) (h0 : w.1 c = 0 → Q (some (.inl (-nI 1))) u) (h1 : 0 < w.1 c → Q (some (.inl (nI (lookN S.P w c (w.1 c - 1) r)))) u) : OKm (d + 1) g_T_layerSeen [.inr (.inr (5, t)), .inl (nI c), .inl (nI r)] u Q := by
  obtain ⟨g1, g2, g3⟩ := hp c hc
  obtain ⟨hn8, hpv⟩ := hn.1
  have ht2 : t < 12 := by omega
  refine en_T_layerSeen _ (Nat.le_of_ble_eq_true rfl) (rb_T_layerSeen_0 ?_)
  simp only [bk_T_layerSeen_0, gr_iloadn, gr_istoren, st1, clr_0, clr_s, sk_0, sk_s, gr_aloadn, gr_getfield, fm_5_1, NI_5, fm_1_0, NI_1, gr_iaload, gr_iconst, gr_isub, gr_istore, gr_iload, gr_ifCond_le, fm_1_1, gr_bipush, gr_imul, gr_iadd, gr_ifCond_lt, gr_ificmp_ge, fm_5_0, fm_2_0, NI_2, gr_aaload, fm_0_4, NI_0, gr_goto, gr_ireturn, gr_iinc, NI_10, ia_10, ln_10, al_10, NI_11, ia_11, ln_11, al_11, NI_13, ra_13, al_13, gr_nil, pI_c, pR_c, oI_c, oR_c, lg_i, lg_l, lg_r, lg_n, kI_p, kI_m, lk_0, lk_s, ar_n, ar_c, if_true, if_false, List.replicate, Nat.reduceAdd, Nat.reduceSub, Nat.reduceLeDiff, Nat.reduceEqDiff, Nat.reduceLT, reduceIte, true_and, and_true, true_implies, false_implies, implies_true, eq_self, not_true_eq_false, not_false_eq_true, Bool.false_eq_true, reduceCtorEq, forall_const, List.headD_cons, Nat.zero_add, true_or, or_true, ne_eq, false_and, and_false, false_or, or_false, Nat.reduceBEq, Bool.false_and, Bool.and_false, Bool.or_false, Bool.false_or, Bool.and_self, Bool.true_and, Bool.and_true, Bool.or_self, z10, z01, zm0, nz1, nz0, cnt0, ht, ht2]
  simp (disch := omega) only [nI_leI, nI_ltI, nI_eq, nI_add, pk_mul, nI_clamp, vp_nI, nI_lt0, nI_ge0, nI_eq0, nI_gt0, nI_le0, nI_neg1, neg1_nI, Nat.not_le, Nat.not_lt, if_true, if_false, true_and, and_true, true_implies, false_implies, implies_true, not_true_eq_false, not_false_eq_true, reduceIte, false_or, or_false, false_and, and_false, true_or, or_true, g1]
  refine ⟨hc, ?_⟩
  by_cases hz : w.1 c = 0
  · rw [hz, nI_0m1]
    (refine rb_T_layerSeen_1 ?_; simp only [bk_T_layerSeen_1, gr_iloadn, gr_istoren, st1, clr_0, clr_s, sk_0, sk_s, gr_aloadn, gr_getfield, fm_5_1, NI_5, fm_1_0, NI_1, gr_iaload, gr_iconst, gr_isub, gr_istore, gr_iload, gr_ifCond_le, fm_1_1, gr_bipush, gr_imul, gr_iadd, gr_ifCond_lt, gr_ificmp_ge, fm_5_0, fm_2_0, NI_2, gr_aaload, fm_0_4, NI_0, gr_goto, gr_ireturn, gr_iinc, NI_10, ia_10, ln_10, al_10, NI_11, ia_11, ln_11, al_11, NI_13, ra_13, al_13, gr_nil, pI_c, pR_c, oI_c, oR_c, lg_i, lg_l, lg_r, lg_n, kI_p, kI_m, lk_0, lk_s, ar_n, ar_c, if_true, if_false, List.replicate, Nat.reduceAdd, Nat.reduceSub, Nat.reduceLeDiff, Nat.reduceEqDiff, Nat.reduceLT, reduceIte, true_and, and_true, true_implies, false_implies, implies_true, eq_self, not_true_eq_false, not_false_eq_true, Bool.false_eq_true, reduceCtorEq, forall_const, List.headD_cons, Nat.zero_add, true_or, or_true, ne_eq, false_and, and_false, false_or, or_false, Nat.reduceBEq, Bool.false_and, Bool.and_false, Bool.or_false, Bool.false_or, Bool.and_self, Bool.true_and, Bool.and_true, Bool.or_self, z10, z01, zm0, nz1, nz0, cnt0, neg1_le])
    rw [hz] at g1
    (refine rb_T_layerSeen_5 ?_; simp only [bk_T_layerSeen_5, gr_iloadn, gr_istoren, st1, clr_0, clr_s, sk_0, sk_s, gr_aloadn, gr_getfield, fm_5_1, NI_5, fm_1_0, NI_1, gr_iaload, gr_iconst, gr_isub, gr_istore, gr_iload, gr_ifCond_le, fm_1_1, gr_bipush, gr_imul, gr_iadd, gr_ifCond_lt, gr_ificmp_ge, fm_5_0, fm_2_0, NI_2, gr_aaload, fm_0_4, NI_0, gr_goto, gr_ireturn, gr_iinc, NI_10, ia_10, ln_10, al_10, NI_11, ia_11, ln_11, al_11, NI_13, ra_13, al_13, gr_nil, pI_c, pR_c, oI_c, oR_c, lg_i, lg_l, lg_r, lg_n, kI_p, kI_m, lk_0, lk_s, ar_n, ar_c, if_true, if_false, List.replicate, Nat.reduceAdd, Nat.reduceSub, Nat.reduceLeDiff, Nat.reduceEqDiff, Nat.reduceLT, reduceIte, true_and, and_true, true_implies, false_implies, implies_true, eq_self, not_true_eq_false, not_false_eq_true, Bool.false_eq_true, reduceCtorEq, forall_const, List.headD_cons, Nat.zero_add, true_or, or_true, ne_eq, false_and, and_false, false_or, or_false, Nat.reduceBEq, Bool.false_and, Bool.and_false, Bool.or_false, Bool.false_or, Bool.and_self, Bool.true_and, Bool.and_true, Bool.or_self, z10, z01, zm0, nz1, nz0, cnt0, ht, ht2])
    simp (disch := omega) only [nI_leI, nI_ltI, nI_eq, nI_add, pk_mul, nI_clamp, vp_nI, nI_lt0, nI_ge0, nI_eq0, nI_gt0, nI_le0, nI_neg1, neg1_nI, Nat.not_le, Nat.not_lt, if_true, if_false, true_and, and_true, true_implies, false_implies, implies_true, not_true_eq_false, not_false_eq_true, reduceIte, false_or, or_false, false_and, and_false, true_or, or_true, g1]
    refine ⟨hc, ?_⟩
    repeat' first | with_reducible intro _ | with_reducible apply And.intro | (refine rb_T_layerSeen_6 ?_; simp only [bk_T_layerSeen_6, gr_iloadn, gr_istoren, st1, clr_0, clr_s, sk_0, sk_s, gr_aloadn, gr_getfield, fm_5_1, NI_5, fm_1_0, NI_1, gr_iaload, gr_iconst, gr_isub, gr_istore, gr_iload, gr_ifCond_le, fm_1_1, gr_bipush, gr_imul, gr_iadd, gr_ifCond_lt, gr_ificmp_ge, fm_5_0, fm_2_0, NI_2, gr_aaload, fm_0_4, NI_0, gr_goto, gr_ireturn, gr_iinc, NI_10, ia_10, ln_10, al_10, NI_11, ia_11, ln_11, al_11, NI_13, ra_13, al_13, gr_nil, pI_c, pR_c, oI_c, oR_c, lg_i, lg_l, lg_r, lg_n, kI_p, kI_m, lk_0, lk_s, ar_n, ar_c, if_true, if_false, List.replicate, Nat.reduceAdd, Nat.reduceSub, Nat.reduceLeDiff, Nat.reduceEqDiff, Nat.reduceLT, reduceIte, true_and, and_true, true_implies, false_implies, implies_true, eq_self, not_true_eq_false, not_false_eq_true, Bool.false_eq_true, reduceCtorEq, forall_const, List.headD_cons, Nat.zero_add, true_or, or_true, ne_eq, false_and, and_false, false_or, or_false, Nat.reduceBEq, Bool.false_and, Bool.and_false, Bool.or_false, Bool.false_or, Bool.and_self, Bool.true_and, Bool.and_true, Bool.or_self, z10, z01, zm0, nz1, nz0, cnt0]) | (refine rb_T_layerSeen_7 ?_; simp only [bk_T_layerSeen_7, gr_iloadn, gr_istoren, st1, clr_0, clr_s, sk_0, sk_s, gr_aloadn, gr_getfield, fm_5_1, NI_5, fm_1_0, NI_1, gr_iaload, gr_iconst, gr_isub, gr_istore, gr_iload, gr_ifCond_le, fm_1_1, gr_bipush, gr_imul, gr_iadd, gr_ifCond_lt, gr_ificmp_ge, fm_5_0, fm_2_0, NI_2, gr_aaload, fm_0_4, NI_0, gr_goto, gr_ireturn, gr_iinc, NI_10, ia_10, ln_10, al_10, NI_11, ia_11, ln_11, al_11, NI_13, ra_13, al_13, gr_nil, pI_c, pR_c, oI_c, oR_c, lg_i, lg_l, lg_r, lg_n, kI_p, kI_m, lk_0, lk_s, ar_n, ar_c, if_true, if_false, List.replicate, Nat.reduceAdd, Nat.reduceSub, Nat.reduceLeDiff, Nat.reduceEqDiff, Nat.reduceLT, reduceIte, true_and, and_true, true_implies, false_implies, implies_true, eq_self, not_true_eq_false, not_false_eq_true, Bool.false_eq_true, reduceCtorEq, forall_const, List.headD_cons, Nat.zero_add, true_or, or_true, ne_eq, false_and, and_false, false_or, or_false, Nat.reduceBEq, Bool.false_and, Bool.and_false, Bool.or_false, Bool.false_or, Bool.and_self, Bool.true_and, Bool.and_true, Bool.or_self, z10, z01, zm0, nz1, nz0, cnt0])
    exact h0 hz
  · have loop : ∀ (l lf : Nat) (x y : Option MV), l < w.1 c → lf < 2 ^ 31 → lookN S.P w c l lf = lookN S.P w c (w.1 c - 1) r → RunB (d + 1) Y_T_layerSeen 1 [some (.inr (.inr (5, t))), some (.inl (nI c)), some (.inl (nI r)), some (.inl (nI lf)), some (.inl (nI l)), x, y] [] u Q := by
      intro l
      induction l with
      | zero =>
        intro lf x y hl hlf he
        (refine rb_T_layerSeen_1 ?_; simp only [bk_T_layerSeen_1, gr_iloadn, gr_istoren, st1, clr_0, clr_s, sk_0, sk_s, gr_aloadn, gr_getfield, fm_5_1, NI_5, fm_1_0, NI_1, gr_iaload, gr_iconst, gr_isub, gr_istore, gr_iload, gr_ifCond_le, fm_1_1, gr_bipush, gr_imul, gr_iadd, gr_ifCond_lt, gr_ificmp_ge, fm_5_0, fm_2_0, NI_2, gr_aaload, fm_0_4, NI_0, gr_goto, gr_ireturn, gr_iinc, NI_10, ia_10, ln_10, al_10, NI_11, ia_11, ln_11, al_11, NI_13, ra_13, al_13, gr_nil, pI_c, pR_c, oI_c, oR_c, lg_i, lg_l, lg_r, lg_n, kI_p, kI_m, lk_0, lk_s, ar_n, ar_c, if_true, if_false, List.replicate, Nat.reduceAdd, Nat.reduceSub, Nat.reduceLeDiff, Nat.reduceEqDiff, Nat.reduceLT, reduceIte, true_and, and_true, true_implies, false_implies, implies_true, eq_self, not_true_eq_false, not_false_eq_true, Bool.false_eq_true, reduceCtorEq, forall_const, List.headD_cons, Nat.zero_add, true_or, or_true, ne_eq, false_and, and_false, false_or, or_false, Nat.reduceBEq, Bool.false_and, Bool.and_false, Bool.or_false, Bool.false_or, Bool.and_self, Bool.true_and, Bool.and_true, Bool.or_self, z10, z01, zm0, nz1, nz0, cnt0])
        simp (disch := omega) only [nI_leI, nI_ltI, nI_eq, nI_add, pk_mul, nI_clamp, vp_nI, nI_lt0, nI_ge0, nI_eq0, nI_gt0, nI_le0, nI_neg1, neg1_nI, Nat.not_le, Nat.not_lt, if_true, if_false, true_and, and_true, true_implies, false_implies, implies_true, not_true_eq_false, not_false_eq_true, reduceIte, false_or, or_false, false_and, and_false, true_or, or_true]
        (refine rb_T_layerSeen_5 ?_; simp only [bk_T_layerSeen_5, gr_iloadn, gr_istoren, st1, clr_0, clr_s, sk_0, sk_s, gr_aloadn, gr_getfield, fm_5_1, NI_5, fm_1_0, NI_1, gr_iaload, gr_iconst, gr_isub, gr_istore, gr_iload, gr_ifCond_le, fm_1_1, gr_bipush, gr_imul, gr_iadd, gr_ifCond_lt, gr_ificmp_ge, fm_5_0, fm_2_0, NI_2, gr_aaload, fm_0_4, NI_0, gr_goto, gr_ireturn, gr_iinc, NI_10, ia_10, ln_10, al_10, NI_11, ia_11, ln_11, al_11, NI_13, ra_13, al_13, gr_nil, pI_c, pR_c, oI_c, oR_c, lg_i, lg_l, lg_r, lg_n, kI_p, kI_m, lk_0, lk_s, ar_n, ar_c, if_true, if_false, List.replicate, Nat.reduceAdd, Nat.reduceSub, Nat.reduceLeDiff, Nat.reduceEqDiff, Nat.reduceLT, reduceIte, true_and, and_true, true_implies, false_implies, implies_true, eq_self, not_true_eq_false, not_false_eq_true, Bool.false_eq_true, reduceCtorEq, forall_const, List.headD_cons, Nat.zero_add, true_or, or_true, ne_eq, false_and, and_false, false_or, or_false, Nat.reduceBEq, Bool.false_and, Bool.and_false, Bool.or_false, Bool.false_or, Bool.and_self, Bool.true_and, Bool.and_true, Bool.or_self, z10, z01, zm0, nz1, nz0, cnt0, ht, ht2])
        simp (disch := omega) only [nI_leI, nI_ltI, nI_eq, nI_add, pk_mul, nI_clamp, vp_nI, nI_lt0, nI_ge0, nI_eq0, nI_gt0, nI_le0, nI_neg1, neg1_nI, Nat.not_le, Nat.not_lt, if_true, if_false, true_and, and_true, true_implies, false_implies, implies_true, not_true_eq_false, not_false_eq_true, reduceIte, false_or, or_false, false_and, and_false, true_or, or_true, g1]
        refine ⟨hc, fun h => absurd h hz, fun _ => ?_⟩
        repeat' first | with_reducible intro _ | with_reducible apply And.intro | (refine rb_T_layerSeen_7 ?_; simp only [bk_T_layerSeen_7, gr_iloadn, gr_istoren, st1, clr_0, clr_s, sk_0, sk_s, gr_aloadn, gr_getfield, fm_5_1, NI_5, fm_1_0, NI_1, gr_iaload, gr_iconst, gr_isub, gr_istore, gr_iload, gr_ifCond_le, fm_1_1, gr_bipush, gr_imul, gr_iadd, gr_ifCond_lt, gr_ificmp_ge, fm_5_0, fm_2_0, NI_2, gr_aaload, fm_0_4, NI_0, gr_goto, gr_ireturn, gr_iinc, NI_10, ia_10, ln_10, al_10, NI_11, ia_11, ln_11, al_11, NI_13, ra_13, al_13, gr_nil, pI_c, pR_c, oI_c, oR_c, lg_i, lg_l, lg_r, lg_n, kI_p, kI_m, lk_0, lk_s, ar_n, ar_c, if_true, if_false, List.replicate, Nat.reduceAdd, Nat.reduceSub, Nat.reduceLeDiff, Nat.reduceEqDiff, Nat.reduceLT, reduceIte, true_and, and_true, true_implies, false_implies, implies_true, eq_self, not_true_eq_false, not_false_eq_true, Bool.false_eq_true, reduceCtorEq, forall_const, List.headD_cons, Nat.zero_add, true_or, or_true, ne_eq, false_and, and_false, false_or, or_false, Nat.reduceBEq, Bool.false_and, Bool.and_false, Bool.or_false, Bool.false_or, Bool.and_self, Bool.true_and, Bool.and_true, Bool.or_self, z10, z01, zm0, nz1, nz0, cnt0])
        rw [← he] at h1
        exact h1 (by omega)
      | succ l ih =>
        intro lf x y hl hlf he
        obtain ⟨q1, q2⟩ := g3 (l + 1) hl
        obtain ⟨p1, p2, p3, p4⟩ := (hw c hc).2 (l + 1) hl
        obtain ⟨b1, b2, b3, b4, b5, b6⟩ := hn.2.1.2 _ p1
        obtain ⟨v1, v2, v3, v4, v5, v6, v7, v8⟩ := hpv _ p1
        (refine rb_T_layerSeen_1 ?_; simp only [bk_T_layerSeen_1, gr_iloadn, gr_istoren, st1, clr_0, clr_s, sk_0, sk_s, gr_aloadn, gr_getfield, fm_5_1, NI_5, fm_1_0, NI_1, gr_iaload, gr_iconst, gr_isub, gr_istore, gr_iload, gr_ifCond_le, fm_1_1, gr_bipush, gr_imul, gr_iadd, gr_ifCond_lt, gr_ificmp_ge, fm_5_0, fm_2_0, NI_2, gr_aaload, fm_0_4, NI_0, gr_goto, gr_ireturn, gr_iinc, NI_10, ia_10, ln_10, al_10, NI_11, ia_11, ln_11, al_11, NI_13, ra_13, al_13, gr_nil, pI_c, pR_c, oI_c, oR_c, lg_i, lg_l, lg_r, lg_n, kI_p, kI_m, lk_0, lk_s, ar_n, ar_c, if_true, if_false, List.replicate, Nat.reduceAdd, Nat.reduceSub, Nat.reduceLeDiff, Nat.reduceEqDiff, Nat.reduceLT, reduceIte, true_and, and_true, true_implies, false_implies, implies_true, eq_self, not_true_eq_false, not_false_eq_true, Bool.false_eq_true, reduceCtorEq, forall_const, List.headD_cons, Nat.zero_add, true_or, or_true, ne_eq, false_and, and_false, false_or, or_false, Nat.reduceBEq, Bool.false_and, Bool.and_false, Bool.or_false, Bool.false_or, Bool.and_self, Bool.true_and, Bool.and_true, Bool.or_self, z10, z01, zm0, nz1, nz0, cnt0, ht, ht2])
        simp (disch := omega) only [nI_leI, nI_ltI, nI_eq, nI_add, pk_mul, nI_clamp, vp_nI, nI_lt0, nI_ge0, nI_eq0, nI_gt0, nI_le0, nI_neg1, neg1_nI, Nat.not_le, Nat.not_lt, if_true, if_false, true_and, and_true, true_implies, false_implies, implies_true, not_true_eq_false, not_false_eq_true, reduceIte, false_or, or_false, false_and, and_false, true_or, or_true]
        rw [show c * 8 + (l + 1) = 8 * c + (l + 1) by omega, q1]
        generalize hgo : w.2.1 (8 * c + (l + 1)) = o at *
        refine ⟨fun h => by omega, fun _ => ⟨by omega, ?_⟩⟩
        simp (disch := omega) only [nI_leI, nI_ltI, nI_eq, nI_add, pk_mul, nI_clamp, vp_nI, nI_lt0, nI_ge0, nI_eq0, nI_gt0, nI_le0, nI_neg1, neg1_nI, Nat.not_le, Nat.not_lt, if_true, if_false, true_and, and_true, true_implies, false_implies, implies_true, not_true_eq_false, not_false_eq_true, reduceIte, false_or, or_false, false_and, and_false, true_or, or_true, Nat.zero_add, b4]
        refine ⟨fun h => by omega, fun _ => ⟨by omega, by omega, ?_⟩⟩
        (refine rb_T_layerSeen_3 ?_; simp only [bk_T_layerSeen_3, gr_iloadn, gr_istoren, st1, clr_0, clr_s, sk_0, sk_s, gr_aloadn, gr_getfield, fm_5_1, NI_5, fm_1_0, NI_1, gr_iaload, gr_iconst, gr_isub, gr_istore, gr_iload, gr_ifCond_le, fm_1_1, gr_bipush, gr_imul, gr_iadd, gr_ifCond_lt, gr_ificmp_ge, fm_5_0, fm_2_0, NI_2, gr_aaload, fm_0_4, NI_0, gr_goto, gr_ireturn, gr_iinc, NI_10, ia_10, ln_10, al_10, NI_11, ia_11, ln_11, al_11, NI_13, ra_13, al_13, gr_nil, pI_c, pR_c, oI_c, oR_c, lg_i, lg_l, lg_r, lg_n, kI_p, kI_m, lk_0, lk_s, ar_n, ar_c, if_true, if_false, List.replicate, Nat.reduceAdd, Nat.reduceSub, Nat.reduceLeDiff, Nat.reduceEqDiff, Nat.reduceLT, reduceIte, true_and, and_true, true_implies, false_implies, implies_true, eq_self, not_true_eq_false, not_false_eq_true, Bool.false_eq_true, reduceCtorEq, forall_const, List.headD_cons, Nat.zero_add, true_or, or_true, ne_eq, false_and, and_false, false_or, or_false, Nat.reduceBEq, Bool.false_and, Bool.and_false, Bool.or_false, Bool.false_or, Bool.and_self, Bool.true_and, Bool.and_true, Bool.or_self, z10, z01, zm0, nz1, nz0, cnt0])
        simp (disch := omega) only [nI_leI, nI_ltI, nI_eq, nI_add, pk_mul, nI_clamp, vp_nI, nI_lt0, nI_ge0, nI_eq0, nI_gt0, nI_le0, nI_neg1, neg1_nI, Nat.not_le, Nat.not_lt, if_true, if_false, true_and, and_true, true_implies, false_implies, implies_true, not_true_eq_false, not_false_eq_true, reduceIte, false_or, or_false, false_and, and_false, true_or, or_true]
        simp only [lookN, hgo] at he
        refine ⟨fun h => ?_, fun h => ?_⟩
        · rw [if_neg (by omega)] at he
          (refine rb_T_layerSeen_4 ?_; simp only [bk_T_layerSeen_4, gr_iloadn, gr_istoren, st1, clr_0, clr_s, sk_0, sk_s, gr_aloadn, gr_getfield, fm_5_1, NI_5, fm_1_0, NI_1, gr_iaload, gr_iconst, gr_isub, gr_istore, gr_iload, gr_ifCond_le, fm_1_1, gr_bipush, gr_imul, gr_iadd, gr_ifCond_lt, gr_ificmp_ge, fm_5_0, fm_2_0, NI_2, gr_aaload, fm_0_4, NI_0, gr_goto, gr_ireturn, gr_iinc, NI_10, ia_10, ln_10, al_10, NI_11, ia_11, ln_11, al_11, NI_13, ra_13, al_13, gr_nil, pI_c, pR_c, oI_c, oR_c, lg_i, lg_l, lg_r, lg_n, kI_p, kI_m, lk_0, lk_s, ar_n, ar_c, if_true, if_false, List.replicate, Nat.reduceAdd, Nat.reduceSub, Nat.reduceLeDiff, Nat.reduceEqDiff, Nat.reduceLT, reduceIte, true_and, and_true, true_implies, false_implies, implies_true, eq_self, not_true_eq_false, not_false_eq_true, Bool.false_eq_true, reduceCtorEq, forall_const, List.headD_cons, Nat.zero_add, true_or, or_true, ne_eq, false_and, and_false, false_or, or_false, Nat.reduceBEq, Bool.false_and, Bool.and_false, Bool.or_false, Bool.false_or, Bool.and_self, Bool.true_and, Bool.and_true, Bool.or_self, z10, z01, zm0, nz1, nz0, cnt0])
          rw [pk_sub h, nI_dec]
          exact ih _ _ _ (by omega) (by omega) he
        · rw [if_pos (by omega)] at he
          rw [← he] at h1
          exact h1 (by omega)
    rw [show nI (w.1 c) - nI 1 = nI (w.1 c - 1) from pk_sub (by omega)]
    exact loop _ _ _ _ (by omega) hr rfl
set_option maxHeartbeats 4000000 in
set_option maxRecDepth 100000 in
theorem c_T_bleach {d t : Nat} {S : SC} {w : WS} {u : Mem} {Q : Option MV → Mem → Prop} (ht : t < 2) (hn : Pn u S) (hp : Pl u t w) (hw : WI S.n S.P w) (hq : ∀ v, Pl v t (bleachN S.P 6 w) → Sm (fun a b _ => a = 12 ∧ b = t) u v → Q none v) : OKm (d + 1) g_T_bleach [.inr (.inr (5, t))] u Q := by
  have ht2 : t < 12 := by omega
  obtain ⟨hn8, hpv⟩ := hn.1
  refine en_T_bleach _ (Nat.le_of_ble_eq_true rfl) (rb_T_bleach_0 ?_)
  simp only [bk_T_bleach_0, gr_iconst, gr_istoren, st1, clr_0, clr_s, sk_0, sk_s, gr_iloadn, gr_bipush, gr_ificmp_ge, gr_aloadn, gr_getfield, fm_5_1, NI_5, fm_1_0, NI_1, gr_iaload, gr_isub, gr_ifCond_lt, gr_imul, gr_iadd, fm_1_1, gr_istore, gr_iload, fm_5_0, fm_2_0, NI_2, gr_aaload, fm_0_3, NI_0, gr_goto, fm_1_2, gr_invokestatic, ps_0, ps_s, pu_n, pu_s, ct_0, ct_i, ct_l, ct_r, gr_iastore, gr_iinc, gr_return, NI_10, ia_10, ln_10, al_10, NI_11, ia_11, ln_11, al_11, NI_12, ia_12, ln_12, al_12, NI_13, ra_13, al_13, gr_nil, pI_c, pR_c, oI_c, oR_c, lg_i, lg_l, lg_r, lg_n, kI_p, kI_m, lk_0, lk_s, ar_n, ar_c, if_true, if_false, List.replicate, Nat.reduceAdd, Nat.reduceSub, Nat.reduceLeDiff, Nat.reduceEqDiff, Nat.reduceLT, reduceIte, true_and, and_true, true_implies, false_implies, implies_true, eq_self, not_true_eq_false, not_false_eq_true, Bool.false_eq_true, reduceCtorEq, forall_const, List.headD_cons, Nat.zero_add, true_or, or_true, ne_eq, false_and, and_false, false_or, or_false, Nat.reduceBEq, Bool.false_and, Bool.and_false, Bool.or_false, Bool.false_or, Bool.and_self, Bool.true_and, Bool.and_true, Bool.or_self, z10, z01, zm0, nz1, nz0, cnt0, ht, ht2]
  have loop : ∀ (n i : Nat) (v : Mem) (x2 x3 x4 x5 : Option MV), i + n = 6 → Pl v t (bleachN S.P i w) → Sm (fun a b _ => a = 12 ∧ b = t) u v → RunB (d + 1) Y_T_bleach 1 [some (.inr (.inr (5, t))), some (.inl (nI i)), x2, x3, x4, x5] [] v Q := by
    intro n
    induction n with
    | zero =>
      intro i v x2 x3 x4 x5 hi hv hs
      (refine rb_T_bleach_1 ?_; simp only [bk_T_bleach_1, gr_iconst, gr_istoren, st1, clr_0, clr_s, sk_0, sk_s, gr_iloadn, gr_bipush, gr_ificmp_ge, gr_aloadn, gr_getfield, fm_5_1, NI_5, fm_1_0, NI_1, gr_iaload, gr_isub, gr_ifCond_lt, gr_imul, gr_iadd, fm_1_1, gr_istore, gr_iload, fm_5_0, fm_2_0, NI_2, gr_aaload, fm_0_3, NI_0, gr_goto, fm_1_2, gr_invokestatic, ps_0, ps_s, pu_n, pu_s, ct_0, ct_i, ct_l, ct_r, gr_iastore, gr_iinc, gr_return, NI_10, ia_10, ln_10, al_10, NI_11, ia_11, ln_11, al_11, NI_12, ia_12, ln_12, al_12, NI_13, ra_13, al_13, gr_nil, pI_c, pR_c, oI_c, oR_c, lg_i, lg_l, lg_r, lg_n, kI_p, kI_m, lk_0, lk_s, ar_n, ar_c, if_true, if_false, List.replicate, Nat.reduceAdd, Nat.reduceSub, Nat.reduceLeDiff, Nat.reduceEqDiff, Nat.reduceLT, reduceIte, true_and, and_true, true_implies, false_implies, implies_true, eq_self, not_true_eq_false, not_false_eq_true, Bool.false_eq_true, reduceCtorEq, forall_const, List.headD_cons, Nat.zero_add, true_or, or_true, ne_eq, false_and, and_false, false_or, or_false, Nat.reduceBEq, Bool.false_and, Bool.and_false, Bool.or_false, Bool.false_or, Bool.and_self, Bool.true_and, Bool.and_true, Bool.or_self, z10, z01, zm0, nz1, nz0, cnt0, ht, ht2])
      refine ⟨fun _ => ?_, fun h => absurd (nI_le (by omega) (by omega)) h⟩
      repeat' first | with_reducible intro _ | with_reducible apply And.intro | (refine rb_T_bleach_5 ?_; simp only [bk_T_bleach_5, gr_iconst, gr_istoren, st1, clr_0, clr_s, sk_0, sk_s, gr_iloadn, gr_bipush, gr_ificmp_ge, gr_aloadn, gr_getfield, fm_5_1, NI_5, fm_1_0, NI_1, gr_iaload, gr_isub, gr_ifCond_lt, gr_imul, gr_iadd, fm_1_1, gr_istore, gr_iload, fm_5_0, fm_2_0, NI_2, gr_aaload, fm_0_3, NI_0, gr_goto, fm_1_2, gr_invokestatic, ps_0, ps_s, pu_n, pu_s, ct_0, ct_i, ct_l, ct_r, gr_iastore, gr_iinc, gr_return, NI_10, ia_10, ln_10, al_10, NI_11, ia_11, ln_11, al_11, NI_12, ia_12, ln_12, al_12, NI_13, ra_13, al_13, gr_nil, pI_c, pR_c, oI_c, oR_c, lg_i, lg_l, lg_r, lg_n, kI_p, kI_m, lk_0, lk_s, ar_n, ar_c, if_true, if_false, List.replicate, Nat.reduceAdd, Nat.reduceSub, Nat.reduceLeDiff, Nat.reduceEqDiff, Nat.reduceLT, reduceIte, true_and, and_true, true_implies, false_implies, implies_true, eq_self, not_true_eq_false, not_false_eq_true, Bool.false_eq_true, reduceCtorEq, forall_const, List.headD_cons, Nat.zero_add, true_or, or_true, ne_eq, false_and, and_false, false_or, or_false, Nat.reduceBEq, Bool.false_and, Bool.and_false, Bool.or_false, Bool.false_or, Bool.and_self, Bool.true_and, Bool.and_true, Bool.or_self, z10, z01, zm0, nz1, nz0, cnt0])
      rw [show (6 : Nat) = i by omega] at hq
      exact hq v hv hs
    | succ n ih =>
      intro i v x2 x3 x4 x5 hi hv hs
      have hi6 : i < 6 := by omega
      obtain ⟨g1, g2, g3⟩ := hv i hi6
      have hw1 := (WI_bleachN (n := S.n) i w hw) i hi6
      have nxt : ∀ (v' : Mem) (y2 y3 y4 y5 : Option MV), Pl v' t (bleachN S.P (i + 1) w) → Sm (fun a b _ => a = 12 ∧ b = t) u v' → RunB (d + 1) Y_T_bleach 4 [some (.inr (.inr (5, t))), some (.inl (nI i)), y2, y3, y4, y5] [] v' Q := by
        intro v' y2 y3 y4 y5 hv' hs'
        (refine rb_T_bleach_4 ?_; simp only [bk_T_bleach_4, gr_iconst, gr_istoren, st1, clr_0, clr_s, sk_0, sk_s, gr_iloadn, gr_bipush, gr_ificmp_ge, gr_aloadn, gr_getfield, fm_5_1, NI_5, fm_1_0, NI_1, gr_iaload, gr_isub, gr_ifCond_lt, gr_imul, gr_iadd, fm_1_1, gr_istore, gr_iload, fm_5_0, fm_2_0, NI_2, gr_aaload, fm_0_3, NI_0, gr_goto, fm_1_2, gr_invokestatic, ps_0, ps_s, pu_n, pu_s, ct_0, ct_i, ct_l, ct_r, gr_iastore, gr_iinc, gr_return, NI_10, ia_10, ln_10, al_10, NI_11, ia_11, ln_11, al_11, NI_12, ia_12, ln_12, al_12, NI_13, ra_13, al_13, gr_nil, pI_c, pR_c, oI_c, oR_c, lg_i, lg_l, lg_r, lg_n, kI_p, kI_m, lk_0, lk_s, ar_n, ar_c, if_true, if_false, List.replicate, Nat.reduceAdd, Nat.reduceSub, Nat.reduceLeDiff, Nat.reduceEqDiff, Nat.reduceLT, reduceIte, true_and, and_true, true_implies, false_implies, implies_true, eq_self, not_true_eq_false, not_false_eq_true, Bool.false_eq_true, reduceCtorEq, forall_const, List.headD_cons, Nat.zero_add, true_or, or_true, ne_eq, false_and, and_false, false_or, or_false, Nat.reduceBEq, Bool.false_and, Bool.and_false, Bool.or_false, Bool.false_or, Bool.and_self, Bool.true_and, Bool.and_true, Bool.or_self, z10, z01, zm0, nz1, nz0, cnt0])
        rw [nI_add]
        exact ih (i + 1) v' _ _ _ _ (by omega) hv' hs'
      simp only [bleachN] at nxt
      generalize hwe : bleachN S.P i w = wi at *
      (refine rb_T_bleach_1 ?_; simp only [bk_T_bleach_1, gr_iconst, gr_istoren, st1, clr_0, clr_s, sk_0, sk_s, gr_iloadn, gr_bipush, gr_ificmp_ge, gr_aloadn, gr_getfield, fm_5_1, NI_5, fm_1_0, NI_1, gr_iaload, gr_isub, gr_ifCond_lt, gr_imul, gr_iadd, fm_1_1, gr_istore, gr_iload, fm_5_0, fm_2_0, NI_2, gr_aaload, fm_0_3, NI_0, gr_goto, fm_1_2, gr_invokestatic, ps_0, ps_s, pu_n, pu_s, ct_0, ct_i, ct_l, ct_r, gr_iastore, gr_iinc, gr_return, NI_10, ia_10, ln_10, al_10, NI_11, ia_11, ln_11, al_11, NI_12, ia_12, ln_12, al_12, NI_13, ra_13, al_13, gr_nil, pI_c, pR_c, oI_c, oR_c, lg_i, lg_l, lg_r, lg_n, kI_p, kI_m, lk_0, lk_s, ar_n, ar_c, if_true, if_false, List.replicate, Nat.reduceAdd, Nat.reduceSub, Nat.reduceLeDiff, Nat.reduceEqDiff, Nat.reduceLT, reduceIte, true_and, and_true, true_implies, false_implies, implies_true, eq_self, not_true_eq_false, not_false_eq_true, Bool.false_eq_true, reduceCtorEq, forall_const, List.headD_cons, Nat.zero_add, true_or, or_true, ne_eq, false_and, and_false, false_or, or_false, Nat.reduceBEq, Bool.false_and, Bool.and_false, Bool.or_false, Bool.false_or, Bool.and_self, Bool.true_and, Bool.and_true, Bool.or_self, z10, z01, zm0, nz1, nz0, cnt0, ht, ht2])
      refine ⟨fun h => absurd h (nI_ge (by omega) (by omega)), fun _ => ?_⟩
      simp (disch := omega) only [nI_leI, nI_ltI, nI_eq, nI_add, pk_mul, nI_clamp, vp_nI, nI_lt0, nI_ge0, nI_eq0, nI_gt0, nI_le0, nI_neg1, neg1_nI, Nat.not_le, Nat.not_lt, if_true, if_false, true_and, and_true, true_implies, false_implies, implies_true, not_true_eq_false, not_false_eq_true, reduceIte, false_or, or_false, false_and, and_false, true_or, or_true, g1]
      refine ⟨hi6, ?_⟩
      by_cases hz : wi.1 i = 0
      · rw [hz, nI_0m1]
        simp only [neg1_lt, true_implies, not_true_eq_false, false_implies, and_true]
        refine nxt v _ _ _ _ ?_ hs
        rw [bleachC, if_neg (by omega)]
        exact hv
      · rw [show nI (wi.1 i) - nI 1 = nI (wi.1 i - 1) from pk_sub (by omega)]
        obtain ⟨q1, q2⟩ := g3 (wi.1 i - 1) (by omega)
        obtain ⟨p1, p2, p3, p4⟩ := hw1.2 (wi.1 i - 1) (by omega)
        have hn' : Pn v S := hn.keep fun c i j hc => hs.1 c i j (by rintro ⟨h1, -⟩; omega)
        obtain ⟨b1, b2, b3, b4, b5, b6⟩ := hn'.2.1.2 _ p1
        obtain ⟨v1, v2, v3, v4, v5, v6, v7, v8⟩ := hpv _ p1
        simp (disch := omega) only [nI_leI, nI_ltI, nI_eq, nI_add, pk_mul, nI_clamp, vp_nI, nI_lt0, nI_ge0, nI_eq0, nI_gt0, nI_le0, nI_neg1, neg1_nI, Nat.not_le, Nat.not_lt, if_true, if_false, true_and, and_true, true_implies, false_implies, implies_true, not_true_eq_false, not_false_eq_true, reduceIte, false_or, or_false, false_and, and_false, true_or, or_true]
        rw [show i * 8 + (wi.1 i - 1) = 8 * i + (wi.1 i - 1) by omega, q1]
        have hble := PlG.bleach hv (by decide) (by decide) (P := S.P) hi6 (by omega)
        have hbl : bleachC S.P i wi = bleachC S.P i wi := rfl
        generalize hgo : wi.2.1 (8 * i + (wi.1 i - 1)) = o at *
        simp (disch := omega) only [nI_leI, nI_ltI, nI_eq, nI_add, pk_mul, nI_clamp, vp_nI, nI_lt0, nI_ge0, nI_eq0, nI_gt0, nI_le0, nI_neg1, neg1_nI, Nat.not_le, Nat.not_lt, if_true, if_false, true_and, and_true, true_implies, false_implies, implies_true, not_true_eq_false, not_false_eq_true, reduceIte, false_or, or_false, false_and, and_false, true_or, or_true, Nat.zero_add, b3]
        refine ⟨by omega, fun h => by omega, fun _ => ⟨by omega, by omega, ?_⟩⟩
        (refine rb_T_bleach_3 ?_; simp only [bk_T_bleach_3, gr_iconst, gr_istoren, st1, clr_0, clr_s, sk_0, sk_s, gr_iloadn, gr_bipush, gr_ificmp_ge, gr_aloadn, gr_getfield, fm_5_1, NI_5, fm_1_0, NI_1, gr_iaload, gr_isub, gr_ifCond_lt, gr_imul, gr_iadd, fm_1_1, gr_istore, gr_iload, fm_5_0, fm_2_0, NI_2, gr_aaload, fm_0_3, NI_0, gr_goto, fm_1_2, gr_invokestatic, ps_0, ps_s, pu_n, pu_s, ct_0, ct_i, ct_l, ct_r, gr_iastore, gr_iinc, gr_return, NI_10, ia_10, ln_10, al_10, NI_11, ia_11, ln_11, al_11, NI_12, ia_12, ln_12, al_12, NI_13, ra_13, al_13, gr_nil, pI_c, pR_c, oI_c, oR_c, lg_i, lg_l, lg_r, lg_n, kI_p, kI_m, lk_0, lk_s, ar_n, ar_c, if_true, if_false, List.replicate, Nat.reduceAdd, Nat.reduceSub, Nat.reduceLeDiff, Nat.reduceEqDiff, Nat.reduceLT, reduceIte, true_and, and_true, true_implies, false_implies, implies_true, eq_self, not_true_eq_false, not_false_eq_true, Bool.false_eq_true, reduceCtorEq, forall_const, List.headD_cons, Nat.zero_add, true_or, or_true, ne_eq, false_and, and_false, false_or, or_false, Nat.reduceBEq, Bool.false_and, Bool.and_false, Bool.or_false, Bool.false_or, Bool.and_self, Bool.true_and, Bool.and_true, Bool.or_self, z10, z01, zm0, nz1, nz0, cnt0, ht, ht2])
        simp (disch := omega) only [nI_leI, nI_ltI, nI_eq, nI_add, pk_mul, nI_clamp, vp_nI, nI_lt0, nI_ge0, nI_eq0, nI_gt0, nI_le0, nI_neg1, neg1_nI, Nat.not_le, Nat.not_lt, if_true, if_false, true_and, and_true, true_implies, false_implies, implies_true, not_true_eq_false, not_false_eq_true, reduceIte, false_or, or_false, false_and, and_false, true_or, or_true, q2]
        refine ⟨by omega, by omega, ?_⟩
        rw [pk_sub (show S.P o 2 ≤ 3 by omega)]
        have e : (if nI 0 < nI (wi.2.2 (8 * i + (wi.1 i - 1))) - nI (3 - S.P o 2) then nI (wi.2.2 (8 * i + (wi.1 i - 1))) - nI (3 - S.P o 2) else nI 0) = nI (wi.2.2 (8 * i + (wi.1 i - 1)) - (3 - S.P o 2)) := by
          by_cases hle : 3 - S.P o 2 ≤ wi.2.2 (8 * i + (wi.1 i - 1))
          · rw [pk_sub hle]
            split
            · rfl
            · next h => rw [nI_ltI (by omega) (by omega)] at h; congr 1; omega
          · have hneg := pk_sneg (a := wi.2.2 (8 * i + (wi.1 i - 1))) (b := 3 - S.P o 2) (by omega) (by omega)
            rw [if_neg (fun h => absurd (Int32.lt_trans h hneg) (by decide))]
            congr 1; omega
        rw [e]
        exact nxt _ _ _ _ _ hble (hs.wr _ ⟨rfl, rfl⟩)
  exact loop 6 0 u _ _ _ _ (by omega) hp Sm.rf
end
section
set_option maxHeartbeats 4000000 in
set_option maxRecDepth 100000 in
theorem c_T_keepFacts {d t a c r : Nat} {x : Int32} {S : SC} {w : WS} {u : Mem} {Q : Option MV → Mem → Prop} (ht : t < 2) (ha : a < 20) (hc : c < 6) (hn : Pn u S) (hp : Pl u t w) (hw : WI S.n S.P w) (hx : (w.1 c = 0 ∧ x = -nI 1) ∨ (0 < w.1 c ∧ x = nI (lookN S.P w c (w.1 c - 1) r))) (hq : ∀ v, (∀ k, k < 6 → rd v 22 t ((a * 6 + c) * 6 + k) = factW S.P w r c k) → Sm (fun e b j => e = 22 ∧ b = t ∧ (a * 6 + c) * 6 ≤ j ∧ j < (a * 6 + c) * 6 + 6) u v → Q none v) : OKm (d + 1) g_T_keepFacts [.inr (.inr (5, t)), .inl (nI a), .inl (nI c), .inl x] u Q := by
  have ht2 : t < 12 := by omega
  obtain ⟨g1, g2, g3⟩ := hp c hc
  obtain ⟨hn8, hpv⟩ := hn.1
  refine en_T_keepFacts _ (Nat.le_of_ble_eq_true rfl) (rb_T_keepFacts_0 ?_)
  simp only [bk_T_keepFacts_0, gr_iloadn, gr_bipush, gr_imul, gr_iadd, gr_istore, st1, clr_0, clr_s, sk_0, sk_s, gr_iload, gr_ifCond_lt, gr_aloadn, gr_getfield, fm_5_2, NI_5, gr_arraylength, gr_ificmp_le, gr_return, fm_5_1, fm_1_0, NI_1, gr_iaload, gr_iconst, gr_ificmp_ge, fm_1_1, fm_5_0, fm_2_0, NI_2, gr_aaload, fm_0_4, NI_0, gr_goto, gr_iinc, gr_iastore, fm_1_2, gr_isub, gr_ifCond_le, gr_astore, gr_aload, fm_0_2, fm_0_0, NI_9, ia_9, ln_9, al_9, NI_10, ia_10, ln_10, al_10, NI_11, ia_11, ln_11, al_11, NI_12, ia_12, ln_12, al_12, NI_13, ra_13, al_13, NI_22, ia_22, ln_22, al_22, gr_nil, pI_c, pR_c, oI_c, oR_c, lg_i, lg_l, lg_r, lg_n, kI_p, kI_m, lk_0, lk_s, ar_n, ar_c, if_true, if_false, List.replicate, Nat.reduceAdd, Nat.reduceSub, Nat.reduceLeDiff, Nat.reduceEqDiff, Nat.reduceLT, reduceIte, true_and, and_true, true_implies, false_implies, implies_true, eq_self, not_true_eq_false, not_false_eq_true, Bool.false_eq_true, reduceCtorEq, forall_const, List.headD_cons, Nat.zero_add, true_or, or_true, ne_eq, false_and, and_false, false_or, or_false, Nat.reduceBEq, Bool.false_and, Bool.and_false, Bool.or_false, Bool.false_or, Bool.and_self, Bool.true_and, Bool.and_true, Bool.or_self, z10, z01, zm0, nz1, nz0, cnt0, ht, ht2]
  simp (disch := omega) only [nI_leI, nI_ltI, nI_eq, nI_add, pk_mul, nI_clamp, vp_nI, nI_lt0, nI_ge0, nI_eq0, nI_gt0, nI_le0, nI_neg1, neg1_nI, Nat.not_le, Nat.not_lt, if_true, if_false, true_and, and_true, true_implies, false_implies, implies_true, not_true_eq_false, not_false_eq_true, reduceIte, false_or, or_false, false_and, and_false, true_or, or_true]
  refine ⟨fun _ => ?_, fun h => by omega⟩
  (refine rb_T_keepFacts_2 ?_; simp only [bk_T_keepFacts_2, gr_iloadn, gr_bipush, gr_imul, gr_iadd, gr_istore, st1, clr_0, clr_s, sk_0, sk_s, gr_iload, gr_ifCond_lt, gr_aloadn, gr_getfield, fm_5_2, NI_5, gr_arraylength, gr_ificmp_le, gr_return, fm_5_1, fm_1_0, NI_1, gr_iaload, gr_iconst, gr_ificmp_ge, fm_1_1, fm_5_0, fm_2_0, NI_2, gr_aaload, fm_0_4, NI_0, gr_goto, gr_iinc, gr_iastore, fm_1_2, gr_isub, gr_ifCond_le, gr_astore, gr_aload, fm_0_2, fm_0_0, NI_9, ia_9, ln_9, al_9, NI_10, ia_10, ln_10, al_10, NI_11, ia_11, ln_11, al_11, NI_12, ia_12, ln_12, al_12, NI_13, ra_13, al_13, NI_22, ia_22, ln_22, al_22, gr_nil, pI_c, pR_c, oI_c, oR_c, lg_i, lg_l, lg_r, lg_n, kI_p, kI_m, lk_0, lk_s, ar_n, ar_c, if_true, if_false, List.replicate, Nat.reduceAdd, Nat.reduceSub, Nat.reduceLeDiff, Nat.reduceEqDiff, Nat.reduceLT, reduceIte, true_and, and_true, true_implies, false_implies, implies_true, eq_self, not_true_eq_false, not_false_eq_true, Bool.false_eq_true, reduceCtorEq, forall_const, List.headD_cons, Nat.zero_add, true_or, or_true, ne_eq, false_and, and_false, false_or, or_false, Nat.reduceBEq, Bool.false_and, Bool.and_false, Bool.or_false, Bool.false_or, Bool.and_self, Bool.true_and, Bool.and_true, Bool.or_self, z10, z01, zm0, nz1, nz0, cnt0, ht, ht2])
  simp (disch := omega) only [nI_leI, nI_ltI, nI_eq, nI_add, pk_mul, nI_clamp, vp_nI, nI_lt0, nI_ge0, nI_eq0, nI_gt0, nI_le0, nI_neg1, neg1_nI, Nat.not_le, Nat.not_lt, if_true, if_false, true_and, and_true, true_implies, false_implies, implies_true, not_true_eq_false, not_false_eq_true, reduceIte, false_or, or_false, false_and, and_false, true_or, or_true, g1]
  refine ⟨hc, ?_⟩
  generalize hpl : (a * 6 + c) * 6 = p at *
  have loop : ∀ (n i : Nat) (y : Option MV), i + n = w.1 c → RunB (d + 1) Y_T_keepFacts 3 [some (.inr (.inr (5, t))), some (.inl (nI a)), some (.inl (nI c)), some (.inl x), some (.inl (nI p)), some (.inl (nI (w.1 c))), some (.inl (nI (thickN S.P w c i))), some (.inl (nI i)), y, none, none] [] u Q := by
    intro n
    induction n with
    | zero =>
      intro i y hi
      rw [show i = w.1 c by omega]
      (refine rb_T_keepFacts_3 ?_; simp only [bk_T_keepFacts_3, gr_iloadn, gr_bipush, gr_imul, gr_iadd, gr_istore, st1, clr_0, clr_s, sk_0, sk_s, gr_iload, gr_ifCond_lt, gr_aloadn, gr_getfield, fm_5_2, NI_5, gr_arraylength, gr_ificmp_le, gr_return, fm_5_1, fm_1_0, NI_1, gr_iaload, gr_iconst, gr_ificmp_ge, fm_1_1, fm_5_0, fm_2_0, NI_2, gr_aaload, fm_0_4, NI_0, gr_goto, gr_iinc, gr_iastore, fm_1_2, gr_isub, gr_ifCond_le, gr_astore, gr_aload, fm_0_2, fm_0_0, NI_9, ia_9, ln_9, al_9, NI_10, ia_10, ln_10, al_10, NI_11, ia_11, ln_11, al_11, NI_12, ia_12, ln_12, al_12, NI_13, ra_13, al_13, NI_22, ia_22, ln_22, al_22, gr_nil, pI_c, pR_c, oI_c, oR_c, lg_i, lg_l, lg_r, lg_n, kI_p, kI_m, lk_0, lk_s, ar_n, ar_c, if_true, if_false, List.replicate, Nat.reduceAdd, Nat.reduceSub, Nat.reduceLeDiff, Nat.reduceEqDiff, Nat.reduceLT, reduceIte, true_and, and_true, true_implies, false_implies, implies_true, eq_self, not_true_eq_false, not_false_eq_true, Bool.false_eq_true, reduceCtorEq, forall_const, List.headD_cons, Nat.zero_add, true_or, or_true, ne_eq, false_and, and_false, false_or, or_false, Nat.reduceBEq, Bool.false_and, Bool.and_false, Bool.or_false, Bool.false_or, Bool.and_self, Bool.true_and, Bool.and_true, Bool.or_self, z10, z01, zm0, nz1, nz0, cnt0, ht, ht2])
      refine ⟨fun _ => ?_, fun h => absurd (nI_le (by omega) (by omega)) h⟩
      (refine rb_T_keepFacts_6 ?_; simp only [bk_T_keepFacts_6, gr_iloadn, gr_bipush, gr_imul, gr_iadd, gr_istore, st1, clr_0, clr_s, sk_0, sk_s, gr_iload, gr_ifCond_lt, gr_aloadn, gr_getfield, fm_5_2, NI_5, gr_arraylength, gr_ificmp_le, gr_return, fm_5_1, fm_1_0, NI_1, gr_iaload, gr_iconst, gr_ificmp_ge, fm_1_1, fm_5_0, fm_2_0, NI_2, gr_aaload, fm_0_4, NI_0, gr_goto, gr_iinc, gr_iastore, fm_1_2, gr_isub, gr_ifCond_le, gr_astore, gr_aload, fm_0_2, fm_0_0, NI_9, ia_9, ln_9, al_9, NI_10, ia_10, ln_10, al_10, NI_11, ia_11, ln_11, al_11, NI_12, ia_12, ln_12, al_12, NI_13, ra_13, al_13, NI_22, ia_22, ln_22, al_22, gr_nil, pI_c, pR_c, oI_c, oR_c, lg_i, lg_l, lg_r, lg_n, kI_p, kI_m, lk_0, lk_s, ar_n, ar_c, if_true, if_false, List.replicate, Nat.reduceAdd, Nat.reduceSub, Nat.reduceLeDiff, Nat.reduceEqDiff, Nat.reduceLT, reduceIte, true_and, and_true, true_implies, false_implies, implies_true, eq_self, not_true_eq_false, not_false_eq_true, Bool.false_eq_true, reduceCtorEq, forall_const, List.headD_cons, Nat.zero_add, true_or, or_true, ne_eq, false_and, and_false, false_or, or_false, Nat.reduceBEq, Bool.false_and, Bool.and_false, Bool.or_false, Bool.false_or, Bool.and_self, Bool.true_and, Bool.and_true, Bool.or_self, z10, z01, zm0, nz1, nz0, cnt0, ht, ht2])
      simp (disch := omega) only [nI_leI, nI_ltI, nI_eq, nI_add, pk_mul, nI_clamp, vp_nI, nI_lt0, nI_ge0, nI_eq0, nI_gt0, nI_le0, nI_neg1, neg1_nI, Nat.not_le, Nat.not_lt, if_true, if_false, true_and, and_true, true_implies, false_implies, implies_true, not_true_eq_false, not_false_eq_true, reduceIte, false_or, or_false, false_and, and_false, true_or, or_true]
      refine ⟨by omega, by omega, by omega, by omega, by omega, by omega, ?_⟩
      rcases hx with ⟨hz, rfl⟩ | ⟨hz, rfl⟩
      · simp only [neg1_lt, true_implies, not_true_eq_false, false_implies, and_true]
        (refine rb_T_keepFacts_9 ?_; simp only [bk_T_keepFacts_9, gr_iloadn, gr_bipush, gr_imul, gr_iadd, gr_istore, st1, clr_0, clr_s, sk_0, sk_s, gr_iload, gr_ifCond_lt, gr_aloadn, gr_getfield, fm_5_2, NI_5, gr_arraylength, gr_ificmp_le, gr_return, fm_5_1, fm_1_0, NI_1, gr_iaload, gr_iconst, gr_ificmp_ge, fm_1_1, fm_5_0, fm_2_0, NI_2, gr_aaload, fm_0_4, NI_0, gr_goto, gr_iinc, gr_iastore, fm_1_2, gr_isub, gr_ifCond_le, gr_astore, gr_aload, fm_0_2, fm_0_0, NI_9, ia_9, ln_9, al_9, NI_10, ia_10, ln_10, al_10, NI_11, ia_11, ln_11, al_11, NI_12, ia_12, ln_12, al_12, NI_13, ra_13, al_13, NI_22, ia_22, ln_22, al_22, gr_nil, pI_c, pR_c, oI_c, oR_c, lg_i, lg_l, lg_r, lg_n, kI_p, kI_m, lk_0, lk_s, ar_n, ar_c, if_true, if_false, List.replicate, Nat.reduceAdd, Nat.reduceSub, Nat.reduceLeDiff, Nat.reduceEqDiff, Nat.reduceLT, reduceIte, true_and, and_true, true_implies, false_implies, implies_true, eq_self, not_true_eq_false, not_false_eq_true, Bool.false_eq_true, reduceCtorEq, forall_const, List.headD_cons, Nat.zero_add, true_or, or_true, ne_eq, false_and, and_false, false_or, or_false, Nat.reduceBEq, Bool.false_and, Bool.and_false, Bool.or_false, Bool.false_or, Bool.and_self, Bool.true_and, Bool.and_true, Bool.or_self, z10, z01, zm0, nz1, nz0, cnt0])
        refine hq _ (fun k hk => ?_) ?_
        · have hk6 : k = 0 ∨ k = 1 ∨ k = 2 ∨ k = 3 ∨ k = 4 ∨ k = 5 := by omega
          rcases hk6 with rfl | rfl | rfl | rfl | rfl | rfl <;> simp [rd_wr, factW, hz]
        · refine ((((((Sm.rf.wr _ ?_).wr _ ?_).wr _ ?_).wr _ ?_).wr _ ?_).wr _ ?_) <;> exact ⟨rfl, rfl, by omega, by omega⟩
      · have hll := look_lt S.P w c (w.1 c - 1) r
        have hfk : ∀ k, factW S.P w r c k = factW S.P w r c k := fun _ => rfl
        have hl2 : lookN S.P w c (w.1 c - 1) r < w.1 c := by omega
        obtain ⟨q1, q2⟩ := g3 _ hl2
        obtain ⟨p1, p2, p3, p4⟩ := (hw c hc).2 _ hl2
        obtain ⟨b1, b2, b3, b4, b5, b6⟩ := hn.2.1.2 _ p1
        obtain ⟨v1, v2, v3, v4, v5, v6, v7, v8⟩ := hpv _ p1
        unfold factW at hq
        generalize lookN S.P w c (w.1 c - 1) r = l at *
        simp only [rd_wr, Nat.reduceEqDiff, false_and, if_false]
        simp (disch := omega) only [nI_leI, nI_ltI, nI_eq, nI_add, pk_mul, nI_clamp, vp_nI, nI_lt0, nI_ge0, nI_eq0, nI_gt0, nI_le0, nI_neg1, neg1_nI, Nat.not_le, Nat.not_lt, if_true, if_false, true_and, and_true, true_implies, false_implies, implies_true, not_true_eq_false, not_false_eq_true, reduceIte, false_or, or_false, false_and, and_false, true_or, or_true]
        rw [show c * 8 + l = 8 * c + l by omega, q1, q2]
        have e1 : nI (w.1 c) - nI 1 = nI (w.1 c - 1) := pk_sub (by omega)
        have e2 : nI (w.1 c - 1) - nI l = nI (w.1 c - 1 - l) := pk_sub (by omega)
        rw [e1, e2]
        generalize hgo : w.2.1 (8 * c + l) = o at *
        generalize hgk : w.2.2 (8 * c + l) = kk at *
        simp (disch := omega) only [nI_leI, nI_ltI, nI_eq, nI_add, pk_mul, nI_clamp, vp_nI, nI_lt0, nI_ge0, nI_eq0, nI_gt0, nI_le0, nI_neg1, neg1_nI, Nat.not_le, Nat.not_lt, if_true, if_false, true_and, and_true, true_implies, false_implies, implies_true, not_true_eq_false, not_false_eq_true, reduceIte, false_or, or_false, false_and, and_false, true_or, or_true, Nat.zero_add, b2]
        by_cases hk0 : kk = 0
        · (repeat' first | with_reducible intro _ | with_reducible apply And.intro) <;> try omega
          · (refine rb_T_keepFacts_9 ?_; simp only [bk_T_keepFacts_9, gr_iloadn, gr_bipush, gr_imul, gr_iadd, gr_istore, st1, clr_0, clr_s, sk_0, sk_s, gr_iload, gr_ifCond_lt, gr_aloadn, gr_getfield, fm_5_2, NI_5, gr_arraylength, gr_ificmp_le, gr_return, fm_5_1, fm_1_0, NI_1, gr_iaload, gr_iconst, gr_ificmp_ge, fm_1_1, fm_5_0, fm_2_0, NI_2, gr_aaload, fm_0_4, NI_0, gr_goto, gr_iinc, gr_iastore, fm_1_2, gr_isub, gr_ifCond_le, gr_astore, gr_aload, fm_0_2, fm_0_0, NI_9, ia_9, ln_9, al_9, NI_10, ia_10, ln_10, al_10, NI_11, ia_11, ln_11, al_11, NI_12, ia_12, ln_12, al_12, NI_13, ra_13, al_13, NI_22, ia_22, ln_22, al_22, gr_nil, pI_c, pR_c, oI_c, oR_c, lg_i, lg_l, lg_r, lg_n, kI_p, kI_m, lk_0, lk_s, ar_n, ar_c, if_true, if_false, List.replicate, Nat.reduceAdd, Nat.reduceSub, Nat.reduceLeDiff, Nat.reduceEqDiff, Nat.reduceLT, reduceIte, true_and, and_true, true_implies, false_implies, implies_true, eq_self, not_true_eq_false, not_false_eq_true, Bool.false_eq_true, reduceCtorEq, forall_const, List.headD_cons, Nat.zero_add, true_or, or_true, ne_eq, false_and, and_false, false_or, or_false, Nat.reduceBEq, Bool.false_and, Bool.and_false, Bool.or_false, Bool.false_or, Bool.and_self, Bool.true_and, Bool.and_true, Bool.or_self, z10, z01, zm0, nz1, nz0, cnt0])
            refine hq _ (fun k hk => ?_) ?_
            · have hk6 : k = 0 ∨ k = 1 ∨ k = 2 ∨ k = 3 ∨ k = 4 ∨ k = 5 := by omega
              rcases hk6 with rfl | rfl | rfl | rfl | rfl | rfl <;> simp [rd_wr, hk0, Nat.pos_iff_ne_zero.mp hz]
            · refine (((((((((Sm.rf.wr _ ?_).wr _ ?_).wr _ ?_).wr _ ?_).wr _ ?_).wr _ ?_).wr _ ?_).wr _ ?_).wr _ ?_) <;> exact ⟨rfl, rfl, by omega, by omega⟩
        · rw [pk_sub p2]
          simp (disch := omega) only [nI_leI, nI_ltI, nI_eq, nI_add, pk_mul, nI_clamp, vp_nI, nI_lt0, nI_ge0, nI_eq0, nI_gt0, nI_le0, nI_neg1, neg1_nI, Nat.not_le, Nat.not_lt, if_true, if_false, true_and, and_true, true_implies, false_implies, implies_true, not_true_eq_false, not_false_eq_true, reduceIte, false_or, or_false, false_and, and_false, true_or, or_true, Nat.zero_add, b2]
          rw [b6 _ (by omega)]
          (repeat' first | with_reducible intro _ | with_reducible apply And.intro) <;> try omega
          (refine rb_T_keepFacts_8 ?_; simp only [bk_T_keepFacts_8, gr_iloadn, gr_bipush, gr_imul, gr_iadd, gr_istore, st1, clr_0, clr_s, sk_0, sk_s, gr_iload, gr_ifCond_lt, gr_aloadn, gr_getfield, fm_5_2, NI_5, gr_arraylength, gr_ificmp_le, gr_return, fm_5_1, fm_1_0, NI_1, gr_iaload, gr_iconst, gr_ificmp_ge, fm_1_1, fm_5_0, fm_2_0, NI_2, gr_aaload, fm_0_4, NI_0, gr_goto, gr_iinc, gr_iastore, fm_1_2, gr_isub, gr_ifCond_le, gr_astore, gr_aload, fm_0_2, fm_0_0, NI_9, ia_9, ln_9, al_9, NI_10, ia_10, ln_10, al_10, NI_11, ia_11, ln_11, al_11, NI_12, ia_12, ln_12, al_12, NI_13, ra_13, al_13, NI_22, ia_22, ln_22, al_22, gr_nil, pI_c, pR_c, oI_c, oR_c, lg_i, lg_l, lg_r, lg_n, kI_p, kI_m, lk_0, lk_s, ar_n, ar_c, if_true, if_false, List.replicate, Nat.reduceAdd, Nat.reduceSub, Nat.reduceLeDiff, Nat.reduceEqDiff, Nat.reduceLT, reduceIte, true_and, and_true, true_implies, false_implies, implies_true, eq_self, not_true_eq_false, not_false_eq_true, Bool.false_eq_true, reduceCtorEq, forall_const, List.headD_cons, Nat.zero_add, true_or, or_true, ne_eq, false_and, and_false, false_or, or_false, Nat.reduceBEq, Bool.false_and, Bool.and_false, Bool.or_false, Bool.false_or, Bool.and_self, Bool.true_and, Bool.and_true, Bool.or_self, z10, z01, zm0, nz1, nz0, cnt0, ht])
          simp (disch := omega) only [nI_leI, nI_ltI, nI_eq, nI_add, pk_mul, nI_clamp, vp_nI, nI_lt0, nI_ge0, nI_eq0, nI_gt0, nI_le0, nI_neg1, neg1_nI, Nat.not_le, Nat.not_lt, if_true, if_false, true_and, and_true, true_implies, false_implies, implies_true, not_true_eq_false, not_false_eq_true, reduceIte, false_or, or_false, false_and, and_false, true_or, or_true]
          refine ⟨by omega, ?_⟩
          (refine rb_T_keepFacts_9 ?_; simp only [bk_T_keepFacts_9, gr_iloadn, gr_bipush, gr_imul, gr_iadd, gr_istore, st1, clr_0, clr_s, sk_0, sk_s, gr_iload, gr_ifCond_lt, gr_aloadn, gr_getfield, fm_5_2, NI_5, gr_arraylength, gr_ificmp_le, gr_return, fm_5_1, fm_1_0, NI_1, gr_iaload, gr_iconst, gr_ificmp_ge, fm_1_1, fm_5_0, fm_2_0, NI_2, gr_aaload, fm_0_4, NI_0, gr_goto, gr_iinc, gr_iastore, fm_1_2, gr_isub, gr_ifCond_le, gr_astore, gr_aload, fm_0_2, fm_0_0, NI_9, ia_9, ln_9, al_9, NI_10, ia_10, ln_10, al_10, NI_11, ia_11, ln_11, al_11, NI_12, ia_12, ln_12, al_12, NI_13, ra_13, al_13, NI_22, ia_22, ln_22, al_22, gr_nil, pI_c, pR_c, oI_c, oR_c, lg_i, lg_l, lg_r, lg_n, kI_p, kI_m, lk_0, lk_s, ar_n, ar_c, if_true, if_false, List.replicate, Nat.reduceAdd, Nat.reduceSub, Nat.reduceLeDiff, Nat.reduceEqDiff, Nat.reduceLT, reduceIte, true_and, and_true, true_implies, false_implies, implies_true, eq_self, not_true_eq_false, not_false_eq_true, Bool.false_eq_true, reduceCtorEq, forall_const, List.headD_cons, Nat.zero_add, true_or, or_true, ne_eq, false_and, and_false, false_or, or_false, Nat.reduceBEq, Bool.false_and, Bool.and_false, Bool.or_false, Bool.false_or, Bool.and_self, Bool.true_and, Bool.and_true, Bool.or_self, z10, z01, zm0, nz1, nz0, cnt0])
          refine hq _ (fun k hk => ?_) ?_
          · have hk6 : k = 0 ∨ k = 1 ∨ k = 2 ∨ k = 3 ∨ k = 4 ∨ k = 5 := by omega
            rcases hk6 with rfl | rfl | rfl | rfl | rfl | rfl <;> simp [rd_wr, hk0, Nat.pos_iff_ne_zero.mp hz]
          · refine ((((((((((Sm.rf.wr _ ?_).wr _ ?_).wr _ ?_).wr _ ?_).wr _ ?_).wr _ ?_).wr _ ?_).wr _ ?_).wr _ ?_).wr _ ?_) <;> exact ⟨rfl, rfl, by omega, by omega⟩
    | succ n ih =>
      intro i y hi
      obtain ⟨q1, q2⟩ := g3 i (by omega)
      obtain ⟨p1, p2, p3, p4⟩ := (hw c hc).2 i (by omega)
      obtain ⟨b1, b2, b3, b4, b5, b6⟩ := hn.2.1.2 _ p1
      obtain ⟨v1, v2, v3, v4, v5, v6, v7, v8⟩ := hpv _ p1
      (refine rb_T_keepFacts_3 ?_; simp only [bk_T_keepFacts_3, gr_iloadn, gr_bipush, gr_imul, gr_iadd, gr_istore, st1, clr_0, clr_s, sk_0, sk_s, gr_iload, gr_ifCond_lt, gr_aloadn, gr_getfield, fm_5_2, NI_5, gr_arraylength, gr_ificmp_le, gr_return, fm_5_1, fm_1_0, NI_1, gr_iaload, gr_iconst, gr_ificmp_ge, fm_1_1, fm_5_0, fm_2_0, NI_2, gr_aaload, fm_0_4, NI_0, gr_goto, gr_iinc, gr_iastore, fm_1_2, gr_isub, gr_ifCond_le, gr_astore, gr_aload, fm_0_2, fm_0_0, NI_9, ia_9, ln_9, al_9, NI_10, ia_10, ln_10, al_10, NI_11, ia_11, ln_11, al_11, NI_12, ia_12, ln_12, al_12, NI_13, ra_13, al_13, NI_22, ia_22, ln_22, al_22, gr_nil, pI_c, pR_c, oI_c, oR_c, lg_i, lg_l, lg_r, lg_n, kI_p, kI_m, lk_0, lk_s, ar_n, ar_c, if_true, if_false, List.replicate, Nat.reduceAdd, Nat.reduceSub, Nat.reduceLeDiff, Nat.reduceEqDiff, Nat.reduceLT, reduceIte, true_and, and_true, true_implies, false_implies, implies_true, eq_self, not_true_eq_false, not_false_eq_true, Bool.false_eq_true, reduceCtorEq, forall_const, List.headD_cons, Nat.zero_add, true_or, or_true, ne_eq, false_and, and_false, false_or, or_false, Nat.reduceBEq, Bool.false_and, Bool.and_false, Bool.or_false, Bool.false_or, Bool.and_self, Bool.true_and, Bool.and_true, Bool.or_self, z10, z01, zm0, nz1, nz0, cnt0, ht, ht2])
      refine ⟨fun h => absurd h (nI_ge (by omega) (by omega)), fun _ => ?_⟩
      simp (disch := omega) only [nI_leI, nI_ltI, nI_eq, nI_add, pk_mul, nI_clamp, vp_nI, nI_lt0, nI_ge0, nI_eq0, nI_gt0, nI_le0, nI_neg1, neg1_nI, Nat.not_le, Nat.not_lt, if_true, if_false, true_and, and_true, true_implies, false_implies, implies_true, not_true_eq_false, not_false_eq_true, reduceIte, false_or, or_false, false_and, and_false, true_or, or_true]
      rw [show c * 8 + i = 8 * c + i by omega, q1]
      have ih' := ih (i + 1) (some (.inl (nI (w.2.1 (8 * c + i))))) (by omega)
      simp only [thickN] at ih'
      generalize hgo : w.2.1 (8 * c + i) = o at *
      refine ⟨by omega, ?_⟩
      simp (disch := omega) only [nI_leI, nI_ltI, nI_eq, nI_add, pk_mul, nI_clamp, vp_nI, nI_lt0, nI_ge0, nI_eq0, nI_gt0, nI_le0, nI_neg1, neg1_nI, Nat.not_le, Nat.not_lt, if_true, if_false, true_and, and_true, true_implies, false_implies, implies_true, not_true_eq_false, not_false_eq_true, reduceIte, false_or, or_false, false_and, and_false, true_or, or_true, Nat.zero_add, b4]
      refine ⟨fun h => by omega, fun _ => ⟨by omega, by omega, ?_⟩⟩
      (refine rb_T_keepFacts_5 ?_; simp only [bk_T_keepFacts_5, gr_iloadn, gr_bipush, gr_imul, gr_iadd, gr_istore, st1, clr_0, clr_s, sk_0, sk_s, gr_iload, gr_ifCond_lt, gr_aloadn, gr_getfield, fm_5_2, NI_5, gr_arraylength, gr_ificmp_le, gr_return, fm_5_1, fm_1_0, NI_1, gr_iaload, gr_iconst, gr_ificmp_ge, fm_1_1, fm_5_0, fm_2_0, NI_2, gr_aaload, fm_0_4, NI_0, gr_goto, gr_iinc, gr_iastore, fm_1_2, gr_isub, gr_ifCond_le, gr_astore, gr_aload, fm_0_2, fm_0_0, NI_9, ia_9, ln_9, al_9, NI_10, ia_10, ln_10, al_10, NI_11, ia_11, ln_11, al_11, NI_12, ia_12, ln_12, al_12, NI_13, ra_13, al_13, NI_22, ia_22, ln_22, al_22, gr_nil, pI_c, pR_c, oI_c, oR_c, lg_i, lg_l, lg_r, lg_n, kI_p, kI_m, lk_0, lk_s, ar_n, ar_c, if_true, if_false, List.replicate, Nat.reduceAdd, Nat.reduceSub, Nat.reduceLeDiff, Nat.reduceEqDiff, Nat.reduceLT, reduceIte, true_and, and_true, true_implies, false_implies, implies_true, eq_self, not_true_eq_false, not_false_eq_true, Bool.false_eq_true, reduceCtorEq, forall_const, List.headD_cons, Nat.zero_add, true_or, or_true, ne_eq, false_and, and_false, false_or, or_false, Nat.reduceBEq, Bool.false_and, Bool.and_false, Bool.or_false, Bool.false_or, Bool.and_self, Bool.true_and, Bool.and_true, Bool.or_self, z10, z01, zm0, nz1, nz0, cnt0])
      simp only [nI_add]
      exact ih'
  exact loop (w.1 c) 0 none (by omega)
/-- what playing day a on stage t may change -/
abbrev FD (t a : Nat) : Nat → Nat → Nat → Prop := fun c i j => i = t ∧ (c = 10 ∨ c = 11 ∨ c = 12 ∨ (c = 22 ∧ a * 36 ≤ j ∧ j < a * 36 + 36))
theorem Sm.fp {t a : Nat} {u v : Mem} (h : Sm (FD t a) u v) : Sm (FP t) u v := h.wk fun c i j hc => ⟨by omega, hc.1⟩
set_option maxHeartbeats 4000000 in
set_option maxRecDepth 100000 in
theorem c_T_play {d t a r : Nat} {S : SC} {w : WS} {u : Mem} {Q : Option MV → Mem → Prop} (ht : t < 2) (ha : a < 20) (hr : r < 2 ^ 31) (hn : Pn u S) (hp : Pl u t w) (hw : WI S.n S.P w) (hq : ∀ v, Pl v t (stepD S a r w) → (∀ c, c < 6 → ∀ k, k < 6 → rd v 22 t ((a * 6 + c) * 6 + k) = factW S.P (openD S a w) r c k) → Sm (FD t a) u v → Q none v) : OKm (d + 2) g_T_play [.inr (.inr (5, t)), .inl (nI a), .inl (nI r)] u Q := by
  have ht2 : t < 12 := by omega
  obtain ⟨hn8, hpv⟩ := hn.1
  refine en_T_play _ (Nat.le_of_ble_eq_true rfl) (rb_T_play_0 ?_)
  simp only [bk_T_play_0, gr_iconst, gr_istoren, st1, clr_0, clr_s, sk_0, sk_s, gr_iloadn, gr_aloadn, gr_getfield, fm_5_0, NI_5, fm_2_8, NI_2, gr_ificmp_ge, fm_2_3, gr_arraylength, gr_iaload, gr_ificmp_ne, fm_2_9, gr_ificmp_eq, fm_5_1, fm_2_4, gr_invokevirtual, NI_1, ps_0, ps_s, pu_n, pu_s, ct_0, ct_i, ct_l, ct_r, gr_iinc, gr_goto, fm_2_5, gr_bipush, fm_2_0, gr_aaload, fm_0_1, NI_0, gr_ifCond_ne, gr_return, NI_13, ra_13, al_13, NI_16, ia_16, ln_16, al_16, NI_17, ia_17, ln_17, al_17, gr_nil, pI_c, pR_c, oI_c, oR_c, lg_i, lg_l, lg_r, lg_n, kI_p, kI_m, lk_0, lk_s, ar_n, ar_c, if_true, if_false, List.replicate, Nat.reduceAdd, Nat.reduceSub, Nat.reduceLeDiff, Nat.reduceEqDiff, Nat.reduceLT, reduceIte, true_and, and_true, true_implies, false_implies, implies_true, eq_self, not_true_eq_false, not_false_eq_true, Bool.false_eq_true, reduceCtorEq, forall_const, List.headD_cons, Nat.zero_add, true_or, or_true, ne_eq, false_and, and_false, false_or, or_false, Nat.reduceBEq, Bool.false_and, Bool.and_false, Bool.or_false, Bool.false_or, Bool.and_self, Bool.true_and, Bool.and_true, Bool.or_self, z10, z01, zm0, nz1, nz0, cnt0, ht, ht2]
  -- the columns are read, then bleached
  have last : ∀ v, Pl v t (openD S a w) → Sm (FD t a) u v → RunB (d + 2) Y_T_play 6 [some (.inr (.inr (5, t))), some (.inl (nI a)), some (.inl (nI r)), none] [] v Q := by
    intro v hv hs
    have hwo : WI S.n S.P (openD S a w) := WI_open hw
    unfold stepD at hq
    generalize openD S a w = wo at *
    (refine rb_T_play_6 ?_; simp only [bk_T_play_6, gr_iconst, gr_istoren, st1, clr_0, clr_s, sk_0, sk_s, gr_iloadn, gr_aloadn, gr_getfield, fm_5_0, NI_5, fm_2_8, NI_2, gr_ificmp_ge, fm_2_3, gr_arraylength, gr_iaload, gr_ificmp_ne, fm_2_9, gr_ificmp_eq, fm_5_1, fm_2_4, gr_invokevirtual, NI_1, ps_0, ps_s, pu_n, pu_s, ct_0, ct_i, ct_l, ct_r, gr_iinc, gr_goto, fm_2_5, gr_bipush, fm_2_0, gr_aaload, fm_0_1, NI_0, gr_ifCond_ne, gr_return, NI_13, ra_13, al_13, NI_16, ia_16, ln_16, al_16, NI_17, ia_17, ln_17, al_17, gr_nil, pI_c, pR_c, oI_c, oR_c, lg_i, lg_l, lg_r, lg_n, kI_p, kI_m, lk_0, lk_s, ar_n, ar_c, if_true, if_false, List.replicate, Nat.reduceAdd, Nat.reduceSub, Nat.reduceLeDiff, Nat.reduceEqDiff, Nat.reduceLT, reduceIte, true_and, and_true, true_implies, false_implies, implies_true, eq_self, not_true_eq_false, not_false_eq_true, Bool.false_eq_true, reduceCtorEq, forall_const, List.headD_cons, Nat.zero_add, true_or, or_true, ne_eq, false_and, and_false, false_or, or_false, Nat.reduceBEq, Bool.false_and, Bool.and_false, Bool.or_false, Bool.false_or, Bool.and_self, Bool.true_and, Bool.and_true, Bool.or_self, z10, z01, zm0, nz1, nz0, cnt0])
    have loop : ∀ (n i : Nat) (v : Mem), i + n = 6 → Pl v t wo → (∀ c, c < i → ∀ k, k < 6 → rd v 22 t ((a * 6 + c) * 6 + k) = factW S.P wo r c k) → Sm (FD t a) u v → RunB (d + 2) Y_T_play 7 [some (.inr (.inr (5, t))), some (.inl (nI a)), some (.inl (nI r)), some (.inl (nI i))] [] v Q := by
      intro n
      induction n with
      | zero =>
        intro i v hi hv hf hs
        have hn' : Pn v S := hn.sm hs.fp
        (refine rb_T_play_7 ?_; simp only [bk_T_play_7, gr_iconst, gr_istoren, st1, clr_0, clr_s, sk_0, sk_s, gr_iloadn, gr_aloadn, gr_getfield, fm_5_0, NI_5, fm_2_8, NI_2, gr_ificmp_ge, fm_2_3, gr_arraylength, gr_iaload, gr_ificmp_ne, fm_2_9, gr_ificmp_eq, fm_5_1, fm_2_4, gr_invokevirtual, NI_1, ps_0, ps_s, pu_n, pu_s, ct_0, ct_i, ct_l, ct_r, gr_iinc, gr_goto, fm_2_5, gr_bipush, fm_2_0, gr_aaload, fm_0_1, NI_0, gr_ifCond_ne, gr_return, NI_13, ra_13, al_13, NI_16, ia_16, ln_16, al_16, NI_17, ia_17, ln_17, al_17, gr_nil, pI_c, pR_c, oI_c, oR_c, lg_i, lg_l, lg_r, lg_n, kI_p, kI_m, lk_0, lk_s, ar_n, ar_c, if_true, if_false, List.replicate, Nat.reduceAdd, Nat.reduceSub, Nat.reduceLeDiff, Nat.reduceEqDiff, Nat.reduceLT, reduceIte, true_and, and_true, true_implies, false_implies, implies_true, eq_self, not_true_eq_false, not_false_eq_true, Bool.false_eq_true, reduceCtorEq, forall_const, List.headD_cons, Nat.zero_add, true_or, or_true, ne_eq, false_and, and_false, false_or, or_false, Nat.reduceBEq, Bool.false_and, Bool.and_false, Bool.or_false, Bool.false_or, Bool.and_self, Bool.true_and, Bool.and_true, Bool.or_self, z10, z01, zm0, nz1, nz0, cnt0, ht])
        refine ⟨fun _ => ?_, fun h => absurd (nI_le (by omega) (by omega)) h⟩
        (refine rb_T_play_8 ?_; simp only [bk_T_play_8, gr_iconst, gr_istoren, st1, clr_0, clr_s, sk_0, sk_s, gr_iloadn, gr_aloadn, gr_getfield, fm_5_0, NI_5, fm_2_8, NI_2, gr_ificmp_ge, fm_2_3, gr_arraylength, gr_iaload, gr_ificmp_ne, fm_2_9, gr_ificmp_eq, fm_5_1, fm_2_4, gr_invokevirtual, NI_1, ps_0, ps_s, pu_n, pu_s, ct_0, ct_i, ct_l, ct_r, gr_iinc, gr_goto, fm_2_5, gr_bipush, fm_2_0, gr_aaload, fm_0_1, NI_0, gr_ifCond_ne, gr_return, NI_13, ra_13, al_13, NI_16, ia_16, ln_16, al_16, NI_17, ia_17, ln_17, al_17, gr_nil, pI_c, pR_c, oI_c, oR_c, lg_i, lg_l, lg_r, lg_n, kI_p, kI_m, lk_0, lk_s, ar_n, ar_c, if_true, if_false, List.replicate, Nat.reduceAdd, Nat.reduceSub, Nat.reduceLeDiff, Nat.reduceEqDiff, Nat.reduceLT, reduceIte, true_and, and_true, true_implies, false_implies, implies_true, eq_self, not_true_eq_false, not_false_eq_true, Bool.false_eq_true, reduceCtorEq, forall_const, List.headD_cons, Nat.zero_add, true_or, or_true, ne_eq, false_and, and_false, false_or, or_false, Nat.reduceBEq, Bool.false_and, Bool.and_false, Bool.or_false, Bool.false_or, Bool.and_self, Bool.true_and, Bool.and_true, Bool.or_self, z10, z01, zm0, nz1, nz0, cnt0, ht])
        unfold closeW at hq
        simp (disch := omega) only [nI_leI, nI_ltI, nI_eq, nI_add, pk_mul, nI_clamp, vp_nI, nI_lt0, nI_ge0, nI_eq0, nI_gt0, nI_le0, nI_neg1, neg1_nI, Nat.not_le, Nat.not_lt, if_true, if_false, true_and, and_true, true_implies, false_implies, implies_true, not_true_eq_false, not_false_eq_true, reduceIte, false_or, or_false, false_and, and_false, true_or, or_true]
        refine ⟨fun h => ?_, fun h => ?_⟩
        · rw [if_neg h] at hq
          (refine rb_T_play_9 ?_; simp only [bk_T_play_9, gr_iconst, gr_istoren, st1, clr_0, clr_s, sk_0, sk_s, gr_iloadn, gr_aloadn, gr_getfield, fm_5_0, NI_5, fm_2_8, NI_2, gr_ificmp_ge, fm_2_3, gr_arraylength, gr_iaload, gr_ificmp_ne, fm_2_9, gr_ificmp_eq, fm_5_1, fm_2_4, gr_invokevirtual, NI_1, ps_0, ps_s, pu_n, pu_s, ct_0, ct_i, ct_l, ct_r, gr_iinc, gr_goto, fm_2_5, gr_bipush, fm_2_0, gr_aaload, fm_0_1, NI_0, gr_ifCond_ne, gr_return, NI_13, ra_13, al_13, NI_16, ia_16, ln_16, al_16, NI_17, ia_17, ln_17, al_17, gr_nil, pI_c, pR_c, oI_c, oR_c, lg_i, lg_l, lg_r, lg_n, kI_p, kI_m, lk_0, lk_s, ar_n, ar_c, if_true, if_false, List.replicate, Nat.reduceAdd, Nat.reduceSub, Nat.reduceLeDiff, Nat.reduceEqDiff, Nat.reduceLT, reduceIte, true_and, and_true, true_implies, false_implies, implies_true, eq_self, not_true_eq_false, not_false_eq_true, Bool.false_eq_true, reduceCtorEq, forall_const, List.headD_cons, Nat.zero_add, true_or, or_true, ne_eq, false_and, and_false, false_or, or_false, Nat.reduceBEq, Bool.false_and, Bool.and_false, Bool.or_false, Bool.false_or, Bool.and_self, Bool.true_and, Bool.and_true, Bool.or_self, z10, z01, zm0, nz1, nz0, cnt0])
          exact hq v hv (fun c hc => hf c (by omega)) hs
        · rw [if_pos h] at hq
          refine c_T_bleach ht hn' hv hwo (fun v' h1 h2 => ?_)
          simp only [gr_iconst, gr_istoren, st1, clr_0, clr_s, sk_0, sk_s, gr_iloadn, gr_aloadn, gr_getfield, fm_5_0, NI_5, fm_2_8, NI_2, gr_ificmp_ge, fm_2_3, gr_arraylength, gr_iaload, gr_ificmp_ne, fm_2_9, gr_ificmp_eq, fm_5_1, fm_2_4, gr_invokevirtual, NI_1, ps_0, ps_s, pu_n, pu_s, ct_0, ct_i, ct_l, ct_r, gr_iinc, gr_goto, fm_2_5, gr_bipush, fm_2_0, gr_aaload, fm_0_1, NI_0, gr_ifCond_ne, gr_return, NI_13, ra_13, al_13, NI_16, ia_16, ln_16, al_16, NI_17, ia_17, ln_17, al_17, gr_nil, pI_c, pR_c, oI_c, oR_c, lg_i, lg_l, lg_r, lg_n, kI_p, kI_m, lk_0, lk_s, ar_n, ar_c, if_true, if_false, List.replicate, Nat.reduceAdd, Nat.reduceSub, Nat.reduceLeDiff, Nat.reduceEqDiff, Nat.reduceLT, reduceIte, true_and, and_true, true_implies, false_implies, implies_true, eq_self, not_true_eq_false, not_false_eq_true, Bool.false_eq_true, reduceCtorEq, forall_const, List.headD_cons, Nat.zero_add, true_or, or_true, ne_eq, false_and, and_false, false_or, or_false, Nat.reduceBEq, Bool.false_and, Bool.and_false, Bool.or_false, Bool.false_or, Bool.and_self, Bool.true_and, Bool.and_true, Bool.or_self, z10, z01, zm0, nz1, nz0, cnt0]
          (refine rb_T_play_9 ?_; simp only [bk_T_play_9, gr_iconst, gr_istoren, st1, clr_0, clr_s, sk_0, sk_s, gr_iloadn, gr_aloadn, gr_getfield, fm_5_0, NI_5, fm_2_8, NI_2, gr_ificmp_ge, fm_2_3, gr_arraylength, gr_iaload, gr_ificmp_ne, fm_2_9, gr_ificmp_eq, fm_5_1, fm_2_4, gr_invokevirtual, NI_1, ps_0, ps_s, pu_n, pu_s, ct_0, ct_i, ct_l, ct_r, gr_iinc, gr_goto, fm_2_5, gr_bipush, fm_2_0, gr_aaload, fm_0_1, NI_0, gr_ifCond_ne, gr_return, NI_13, ra_13, al_13, NI_16, ia_16, ln_16, al_16, NI_17, ia_17, ln_17, al_17, gr_nil, pI_c, pR_c, oI_c, oR_c, lg_i, lg_l, lg_r, lg_n, kI_p, kI_m, lk_0, lk_s, ar_n, ar_c, if_true, if_false, List.replicate, Nat.reduceAdd, Nat.reduceSub, Nat.reduceLeDiff, Nat.reduceEqDiff, Nat.reduceLT, reduceIte, true_and, and_true, true_implies, false_implies, implies_true, eq_self, not_true_eq_false, not_false_eq_true, Bool.false_eq_true, reduceCtorEq, forall_const, List.headD_cons, Nat.zero_add, true_or, or_true, ne_eq, false_and, and_false, false_or, or_false, Nat.reduceBEq, Bool.false_and, Bool.and_false, Bool.or_false, Bool.false_or, Bool.and_self, Bool.true_and, Bool.and_true, Bool.or_self, z10, z01, zm0, nz1, nz0, cnt0])
          refine hq v' h1 (fun c hc k hk => ?_) (hs.tr (h2.wk fun c i j hc => ⟨hc.2, Or.inr (Or.inr (Or.inl hc.1))⟩))
          rw [h2.1 _ _ _ (by rintro ⟨h3, -⟩; omega)]
          exact hf c (by omega) k hk
      | succ n ih =>
        intro i v hi hv hf hs
        have hn' : Pn v S := hn.sm hs.fp
        have hi6 : i < 6 := by omega
        (refine rb_T_play_7 ?_; simp only [bk_T_play_7, gr_iconst, gr_istoren, st1, clr_0, clr_s, sk_0, sk_s, gr_iloadn, gr_aloadn, gr_getfield, fm_5_0, NI_5, fm_2_8, NI_2, gr_ificmp_ge, fm_2_3, gr_arraylength, gr_iaload, gr_ificmp_ne, fm_2_9, gr_ificmp_eq, fm_5_1, fm_2_4, gr_invokevirtual, NI_1, ps_0, ps_s, pu_n, pu_s, ct_0, ct_i, ct_l, ct_r, gr_iinc, gr_goto, fm_2_5, gr_bipush, fm_2_0, gr_aaload, fm_0_1, NI_0, gr_ifCond_ne, gr_return, NI_13, ra_13, al_13, NI_16, ia_16, ln_16, al_16, NI_17, ia_17, ln_17, al_17, gr_nil, pI_c, pR_c, oI_c, oR_c, lg_i, lg_l, lg_r, lg_n, kI_p, kI_m, lk_0, lk_s, ar_n, ar_c, if_true, if_false, List.replicate, Nat.reduceAdd, Nat.reduceSub, Nat.reduceLeDiff, Nat.reduceEqDiff, Nat.reduceLT, reduceIte, true_and, and_true, true_implies, false_implies, implies_true, eq_self, not_true_eq_false, not_false_eq_true, Bool.false_eq_true, reduceCtorEq, forall_const, List.headD_cons, Nat.zero_add, true_or, or_true, ne_eq, false_and, and_false, false_or, or_false, Nat.reduceBEq, Bool.false_and, Bool.and_false, Bool.or_false, Bool.false_or, Bool.and_self, Bool.true_and, Bool.and_true, Bool.or_self, z10, z01, zm0, nz1, nz0, cnt0, ht])
        refine ⟨fun h => absurd h (nI_ge (by omega) (by omega)), fun _ => ?_⟩
        have key : ∀ x, ((wo.1 i = 0 ∧ x = -nI 1) ∨ (0 < wo.1 i ∧ x = nI (lookN S.P wo i (wo.1 i - 1) r))) → OKm (d + 1) g_T_keepFacts [.inr (.inr (5, t)), .inl (nI a), .inl (nI i), .inl x] v (fun z u' => RunB (d + 2) Y_T_play 7 [some (.inr (.inr (5, t))), some (.inl (nI a)), some (.inl (nI r)), some (.inl (nI i + nI 1))] (pushR z []) u' Q) := by
          intro x hx
          refine c_T_keepFacts ht ha hi6 hn' hv hwo hx (fun v' h1 h2 => ?_)
          rw [nI_add]
          refine ih (i + 1) v' (by omega) ?_ (fun c hc k hk => ?_) (hs.tr (h2.wk fun c b j hc => ⟨hc.2.1, Or.inr (Or.inr (Or.inr ⟨hc.1, by omega, by omega⟩))⟩))
          · exact hv.same (fun j _ => h2.1 _ _ _ (by rintro ⟨h3, -⟩; omega)) (fun j _ => h2.1 _ _ _ (by rintro ⟨h3, -⟩; omega)) (fun j _ => h2.1 _ _ _ (by rintro ⟨h3, -⟩; omega))
          · by_cases e : c = i
            · subst e; exact h1 k hk
            · rw [h2.1 _ _ _ (by rintro ⟨-, -, h3, h4⟩; omega)]
              exact hf c (by omega) k hk
        refine c_T_layerSeen ht hi6 hr hn' hv hwo (fun h => ?_) (fun h => ?_)
        · simp only [gr_iconst, gr_istoren, st1, clr_0, clr_s, sk_0, sk_s, gr_iloadn, gr_aloadn, gr_getfield, fm_5_0, NI_5, fm_2_8, NI_2, gr_ificmp_ge, fm_2_3, gr_arraylength, gr_iaload, gr_ificmp_ne, fm_2_9, gr_ificmp_eq, fm_5_1, fm_2_4, gr_invokevirtual, NI_1, ps_0, ps_s, pu_n, pu_s, ct_0, ct_i, ct_l, ct_r, gr_iinc, gr_goto, fm_2_5, gr_bipush, fm_2_0, gr_aaload, fm_0_1, NI_0, gr_ifCond_ne, gr_return, NI_13, ra_13, al_13, NI_16, ia_16, ln_16, al_16, NI_17, ia_17, ln_17, al_17, gr_nil, pI_c, pR_c, oI_c, oR_c, lg_i, lg_l, lg_r, lg_n, kI_p, kI_m, lk_0, lk_s, ar_n, ar_c, if_true, if_false, List.replicate, Nat.reduceAdd, Nat.reduceSub, Nat.reduceLeDiff, Nat.reduceEqDiff, Nat.reduceLT, reduceIte, true_and, and_true, true_implies, false_implies, implies_true, eq_self, not_true_eq_false, not_false_eq_true, Bool.false_eq_true, reduceCtorEq, forall_const, List.headD_cons, Nat.zero_add, true_or, or_true, ne_eq, false_and, and_false, false_or, or_false, Nat.reduceBEq, Bool.false_and, Bool.and_false, Bool.or_false, Bool.false_or, Bool.and_self, Bool.true_and, Bool.and_true, Bool.or_self, z10, z01, zm0, nz1, nz0, cnt0, ht]
          exact key _ (Or.inl ⟨h, rfl⟩)
        · simp only [gr_iconst, gr_istoren, st1, clr_0, clr_s, sk_0, sk_s, gr_iloadn, gr_aloadn, gr_getfield, fm_5_0, NI_5, fm_2_8, NI_2, gr_ificmp_ge, fm_2_3, gr_arraylength, gr_iaload, gr_ificmp_ne, fm_2_9, gr_ificmp_eq, fm_5_1, fm_2_4, gr_invokevirtual, NI_1, ps_0, ps_s, pu_n, pu_s, ct_0, ct_i, ct_l, ct_r, gr_iinc, gr_goto, fm_2_5, gr_bipush, fm_2_0, gr_aaload, fm_0_1, NI_0, gr_ifCond_ne, gr_return, NI_13, ra_13, al_13, NI_16, ia_16, ln_16, al_16, NI_17, ia_17, ln_17, al_17, gr_nil, pI_c, pR_c, oI_c, oR_c, lg_i, lg_l, lg_r, lg_n, kI_p, kI_m, lk_0, lk_s, ar_n, ar_c, if_true, if_false, List.replicate, Nat.reduceAdd, Nat.reduceSub, Nat.reduceLeDiff, Nat.reduceEqDiff, Nat.reduceLT, reduceIte, true_and, and_true, true_implies, false_implies, implies_true, eq_self, not_true_eq_false, not_false_eq_true, Bool.false_eq_true, reduceCtorEq, forall_const, List.headD_cons, Nat.zero_add, true_or, or_true, ne_eq, false_and, and_false, false_or, or_false, Nat.reduceBEq, Bool.false_and, Bool.and_false, Bool.or_false, Bool.false_or, Bool.and_self, Bool.true_and, Bool.and_true, Bool.or_self, z10, z01, zm0, nz1, nz0, cnt0, ht]
          exact key _ (Or.inr ⟨h, rfl⟩)
    exact loop 6 0 v (by omega) hv (fun c hc => by omega) hs
  unfold openD at last
  -- the posters are stuck
  have mid : ∀ v w1, Pl v t w1 → w1 = tearsN S.td S.tc S.sp a S.m w → Sm (FD t a) u v → RunB (d + 2) Y_T_play 3 [some (.inr (.inr (5, t))), some (.inl (nI a)), some (.inl (nI r)), none] [] v Q := by
    intro v w1 hv hw1 hs
    rw [← hw1] at last
    (refine rb_T_play_3 ?_; simp only [bk_T_play_3, gr_iconst, gr_istoren, st1, clr_0, clr_s, sk_0, sk_s, gr_iloadn, gr_aloadn, gr_getfield, fm_5_0, NI_5, fm_2_8, NI_2, gr_ificmp_ge, fm_2_3, gr_arraylength, gr_iaload, gr_ificmp_ne, fm_2_9, gr_ificmp_eq, fm_5_1, fm_2_4, gr_invokevirtual, NI_1, ps_0, ps_s, pu_n, pu_s, ct_0, ct_i, ct_l, ct_r, gr_iinc, gr_goto, fm_2_5, gr_bipush, fm_2_0, gr_aaload, fm_0_1, NI_0, gr_ifCond_ne, gr_return, NI_13, ra_13, al_13, NI_16, ia_16, ln_16, al_16, NI_17, ia_17, ln_17, al_17, gr_nil, pI_c, pR_c, oI_c, oR_c, lg_i, lg_l, lg_r, lg_n, kI_p, kI_m, lk_0, lk_s, ar_n, ar_c, if_true, if_false, List.replicate, Nat.reduceAdd, Nat.reduceSub, Nat.reduceLeDiff, Nat.reduceEqDiff, Nat.reduceLT, reduceIte, true_and, and_true, true_implies, false_implies, implies_true, eq_self, not_true_eq_false, not_false_eq_true, Bool.false_eq_true, reduceCtorEq, forall_const, List.headD_cons, Nat.zero_add, true_or, or_true, ne_eq, false_and, and_false, false_or, or_false, Nat.reduceBEq, Bool.false_and, Bool.and_false, Bool.or_false, Bool.false_or, Bool.and_self, Bool.true_and, Bool.and_true, Bool.or_self, z10, z01, zm0, nz1, nz0, cnt0])
    have loop : ∀ (n i : Nat) (v : Mem), i + n = S.n → Pl v t (sticksN S.P a i w1) → Sm (FD t a) u v → RunB (d + 2) Y_T_play 4 [some (.inr (.inr (5, t))), some (.inl (nI a)), some (.inl (nI r)), some (.inl (nI i))] [] v Q := by
      intro n
      induction n with
      | zero =>
        intro i v hi hv hs
        have hn' : Pn v S := hn.sm hs.fp
        have h5 := hn'.2.1.1
        (refine rb_T_play_4 ?_; simp only [bk_T_play_4, gr_iconst, gr_istoren, st1, clr_0, clr_s, sk_0, sk_s, gr_iloadn, gr_aloadn, gr_getfield, fm_5_0, NI_5, fm_2_8, NI_2, gr_ificmp_ge, fm_2_3, gr_arraylength, gr_iaload, gr_ificmp_ne, fm_2_9, gr_ificmp_eq, fm_5_1, fm_2_4, gr_invokevirtual, NI_1, ps_0, ps_s, pu_n, pu_s, ct_0, ct_i, ct_l, ct_r, gr_iinc, gr_goto, fm_2_5, gr_bipush, fm_2_0, gr_aaload, fm_0_1, NI_0, gr_ifCond_ne, gr_return, NI_13, ra_13, al_13, NI_16, ia_16, ln_16, al_16, NI_17, ia_17, ln_17, al_17, gr_nil, pI_c, pR_c, oI_c, oR_c, lg_i, lg_l, lg_r, lg_n, kI_p, kI_m, lk_0, lk_s, ar_n, ar_c, if_true, if_false, List.replicate, Nat.reduceAdd, Nat.reduceSub, Nat.reduceLeDiff, Nat.reduceEqDiff, Nat.reduceLT, reduceIte, true_and, and_true, true_implies, false_implies, implies_true, eq_self, not_true_eq_false, not_false_eq_true, Bool.false_eq_true, reduceCtorEq, forall_const, List.headD_cons, Nat.zero_add, true_or, or_true, ne_eq, false_and, and_false, false_or, or_false, Nat.reduceBEq, Bool.false_and, Bool.and_false, Bool.or_false, Bool.false_or, Bool.and_self, Bool.true_and, Bool.and_true, Bool.or_self, z10, z01, zm0, nz1, nz0, cnt0, ht, h5])
        refine ⟨fun _ => ?_, fun h => absurd (nI_le (by omega) (by omega)) h⟩
        rw [show S.n = i by omega] at last
        exact run_le (last v hv hs) (by simp [leL])
      | succ n ih =>
        intro i v hi hv hs
        have hn' : Pn v S := hn.sm hs.fp
        have h5 := hn'.2.1.1
        obtain ⟨b1, b2, b3, b4, b5, b6⟩ := hn'.2.1.2 i (by omega)
        obtain ⟨v1, v2, v3, v4, v5, v6, v7, v8⟩ := hpv i (by omega)
        have nxt : ∀ v', Pl v' t (sticksN S.P a (i + 1) w1) → Sm (FD t a) u v' → RunB (d + 2) Y_T_play 5 [some (.inr (.inr (5, t))), some (.inl (nI a)), some (.inl (nI r)), some (.inl (nI i))] [] v' Q := by
          intro v' hv' hs'
          (refine rb_T_play_5 ?_; simp only [bk_T_play_5, gr_iconst, gr_istoren, st1, clr_0, clr_s, sk_0, sk_s, gr_iloadn, gr_aloadn, gr_getfield, fm_5_0, NI_5, fm_2_8, NI_2, gr_ificmp_ge, fm_2_3, gr_arraylength, gr_iaload, gr_ificmp_ne, fm_2_9, gr_ificmp_eq, fm_5_1, fm_2_4, gr_invokevirtual, NI_1, ps_0, ps_s, pu_n, pu_s, ct_0, ct_i, ct_l, ct_r, gr_iinc, gr_goto, fm_2_5, gr_bipush, fm_2_0, gr_aaload, fm_0_1, NI_0, gr_ifCond_ne, gr_return, NI_13, ra_13, al_13, NI_16, ia_16, ln_16, al_16, NI_17, ia_17, ln_17, al_17, gr_nil, pI_c, pR_c, oI_c, oR_c, lg_i, lg_l, lg_r, lg_n, kI_p, kI_m, lk_0, lk_s, ar_n, ar_c, if_true, if_false, List.replicate, Nat.reduceAdd, Nat.reduceSub, Nat.reduceLeDiff, Nat.reduceEqDiff, Nat.reduceLT, reduceIte, true_and, and_true, true_implies, false_implies, implies_true, eq_self, not_true_eq_false, not_false_eq_true, Bool.false_eq_true, reduceCtorEq, forall_const, List.headD_cons, Nat.zero_add, true_or, or_true, ne_eq, false_and, and_false, false_or, or_false, Nat.reduceBEq, Bool.false_and, Bool.and_false, Bool.or_false, Bool.false_or, Bool.and_self, Bool.true_and, Bool.and_true, Bool.or_self, z10, z01, zm0, nz1, nz0, cnt0])
          rw [nI_add]
          exact ih (i + 1) v' (by omega) hv' hs'
        simp only [sticksN] at nxt
        have hi8 : i < 8 := by omega
        (refine rb_T_play_4 ?_; simp only [bk_T_play_4, gr_iconst, gr_istoren, st1, clr_0, clr_s, sk_0, sk_s, gr_iloadn, gr_aloadn, gr_getfield, fm_5_0, NI_5, fm_2_8, NI_2, gr_ificmp_ge, fm_2_3, gr_arraylength, gr_iaload, gr_ificmp_ne, fm_2_9, gr_ificmp_eq, fm_5_1, fm_2_4, gr_invokevirtual, NI_1, ps_0, ps_s, pu_n, pu_s, ct_0, ct_i, ct_l, ct_r, gr_iinc, gr_goto, fm_2_5, gr_bipush, fm_2_0, gr_aaload, fm_0_1, NI_0, gr_ifCond_ne, gr_return, NI_13, ra_13, al_13, NI_16, ia_16, ln_16, al_16, NI_17, ia_17, ln_17, al_17, gr_nil, pI_c, pR_c, oI_c, oR_c, lg_i, lg_l, lg_r, lg_n, kI_p, kI_m, lk_0, lk_s, ar_n, ar_c, if_true, if_false, List.replicate, Nat.reduceAdd, Nat.reduceSub, Nat.reduceLeDiff, Nat.reduceEqDiff, Nat.reduceLT, reduceIte, true_and, and_true, true_implies, false_implies, implies_true, eq_self, not_true_eq_false, not_false_eq_true, Bool.false_eq_true, reduceCtorEq, forall_const, List.headD_cons, Nat.zero_add, true_or, or_true, ne_eq, false_and, and_false, false_or, or_false, Nat.reduceBEq, Bool.false_and, Bool.and_false, Bool.or_false, Bool.false_or, Bool.and_self, Bool.true_and, Bool.and_true, Bool.or_self, z10, z01, zm0, nz1, nz0, cnt0, ht, ht2, h5])
        simp (disch := omega) only [nI_leI, nI_ltI, nI_eq, nI_add, pk_mul, nI_clamp, vp_nI, nI_lt0, nI_ge0, nI_eq0, nI_gt0, nI_le0, nI_neg1, neg1_nI, Nat.not_le, Nat.not_lt, if_true, if_false, true_and, and_true, true_implies, false_implies, implies_true, not_true_eq_false, not_false_eq_true, reduceIte, false_or, or_false, false_and, and_false, true_or, or_true, Nat.zero_add, b1, hi8]
        by_cases h : S.P i 0 = a
        · (repeat' first | with_reducible intro _ | with_reducible apply And.intro) <;> try omega
          · refine c_P_put ht2 hi8 v2 v7 b2 b5 hv (fun v' h1 h2 => ?_)
            simp only [gr_iconst, gr_istoren, st1, clr_0, clr_s, sk_0, sk_s, gr_iloadn, gr_aloadn, gr_getfield, fm_5_0, NI_5, fm_2_8, NI_2, gr_ificmp_ge, fm_2_3, gr_arraylength, gr_iaload, gr_ificmp_ne, fm_2_9, gr_ificmp_eq, fm_5_1, fm_2_4, gr_invokevirtual, NI_1, ps_0, ps_s, pu_n, pu_s, ct_0, ct_i, ct_l, ct_r, gr_iinc, gr_goto, fm_2_5, gr_bipush, fm_2_0, gr_aaload, fm_0_1, NI_0, gr_ifCond_ne, gr_return, NI_13, ra_13, al_13, NI_16, ia_16, ln_16, al_16, NI_17, ia_17, ln_17, al_17, gr_nil, pI_c, pR_c, oI_c, oR_c, lg_i, lg_l, lg_r, lg_n, kI_p, kI_m, lk_0, lk_s, ar_n, ar_c, if_true, if_false, List.replicate, Nat.reduceAdd, Nat.reduceSub, Nat.reduceLeDiff, Nat.reduceEqDiff, Nat.reduceLT, reduceIte, true_and, and_true, true_implies, false_implies, implies_true, eq_self, not_true_eq_false, not_false_eq_true, Bool.false_eq_true, reduceCtorEq, forall_const, List.headD_cons, Nat.zero_add, true_or, or_true, ne_eq, false_and, and_false, false_or, or_false, Nat.reduceBEq, Bool.false_and, Bool.and_false, Bool.or_false, Bool.false_or, Bool.and_self, Bool.true_and, Bool.and_true, Bool.or_self, z10, z01, zm0, nz1, nz0, cnt0]
            exact nxt v' (by rw [if_pos h]; exact h1) (hs.tr (h2.wk fun c i j hc => ⟨hc.2, by omega⟩))
        · (repeat' first | with_reducible intro _ | with_reducible apply And.intro) <;> try omega
          · exact nxt v (by rw [if_neg h]; exact hv) hs
    exact loop S.n 0 v (by omega) hv hs
  have loop : ∀ (n i : Nat) (v : Mem), i + n = S.m → Pl v t (tearsN S.td S.tc S.sp a i w) → Sm (FD t a) u v → RunB (d + 2) Y_T_play 1 [some (.inr (.inr (5, t))), some (.inl (nI a)), some (.inl (nI r)), some (.inl (nI i))] [] v Q := by
    intro n
    induction n with
    | zero =>
      intro i v hi hv hs
      have hn' : Pn v S := hn.sm hs.fp
      have h8 := hn'.2.2.1
      have hm := hn'.2.2.2.1
      (refine rb_T_play_1 ?_; simp only [bk_T_play_1, gr_iconst, gr_istoren, st1, clr_0, clr_s, sk_0, sk_s, gr_iloadn, gr_aloadn, gr_getfield, fm_5_0, NI_5, fm_2_8, NI_2, gr_ificmp_ge, fm_2_3, gr_arraylength, gr_iaload, gr_ificmp_ne, fm_2_9, gr_ificmp_eq, fm_5_1, fm_2_4, gr_invokevirtual, NI_1, ps_0, ps_s, pu_n, pu_s, ct_0, ct_i, ct_l, ct_r, gr_iinc, gr_goto, fm_2_5, gr_bipush, fm_2_0, gr_aaload, fm_0_1, NI_0, gr_ifCond_ne, gr_return, NI_13, ra_13, al_13, NI_16, ia_16, ln_16, al_16, NI_17, ia_17, ln_17, al_17, gr_nil, pI_c, pR_c, oI_c, oR_c, lg_i, lg_l, lg_r, lg_n, kI_p, kI_m, lk_0, lk_s, ar_n, ar_c, if_true, if_false, List.replicate, Nat.reduceAdd, Nat.reduceSub, Nat.reduceLeDiff, Nat.reduceEqDiff, Nat.reduceLT, reduceIte, true_and, and_true, true_implies, false_implies, implies_true, eq_self, not_true_eq_false, not_false_eq_true, Bool.false_eq_true, reduceCtorEq, forall_const, List.headD_cons, Nat.zero_add, true_or, or_true, ne_eq, false_and, and_false, false_or, or_false, Nat.reduceBEq, Bool.false_and, Bool.and_false, Bool.or_false, Bool.false_or, Bool.and_self, Bool.true_and, Bool.and_true, Bool.or_self, z10, z01, zm0, nz1, nz0, cnt0, ht, h8])
      refine ⟨fun _ => ?_, fun h => absurd (nI_le (by omega) (by omega)) h⟩
      exact run_le (mid v _ hv (by rw [show i = S.m by omega]) hs) (by simp [leL])
    | succ n ih =>
      intro i v hi hv hs
      have hn' : Pn v S := hn.sm hs.fp
      obtain ⟨h8, hm, h9, h10, htr⟩ := hn'.2.2
      obtain ⟨r1, r2, r3, r4⟩ := htr i (by omega)
      have nxt : ∀ v', Pl v' t (tearsN S.td S.tc S.sp a (i + 1) w) → Sm (FD t a) u v' → RunB (d + 2) Y_T_play 2 [some (.inr (.inr (5, t))), some (.inl (nI a)), some (.inl (nI r)), some (.inl (nI i))] [] v' Q := by
        intro v' hv' hs'
        (refine rb_T_play_2 ?_; simp only [bk_T_play_2, gr_iconst, gr_istoren, st1, clr_0, clr_s, sk_0, sk_s, gr_iloadn, gr_aloadn, gr_getfield, fm_5_0, NI_5, fm_2_8, NI_2, gr_ificmp_ge, fm_2_3, gr_arraylength, gr_iaload, gr_ificmp_ne, fm_2_9, gr_ificmp_eq, fm_5_1, fm_2_4, gr_invokevirtual, NI_1, ps_0, ps_s, pu_n, pu_s, ct_0, ct_i, ct_l, ct_r, gr_iinc, gr_goto, fm_2_5, gr_bipush, fm_2_0, gr_aaload, fm_0_1, NI_0, gr_ifCond_ne, gr_return, NI_13, ra_13, al_13, NI_16, ia_16, ln_16, al_16, NI_17, ia_17, ln_17, al_17, gr_nil, pI_c, pR_c, oI_c, oR_c, lg_i, lg_l, lg_r, lg_n, kI_p, kI_m, lk_0, lk_s, ar_n, ar_c, if_true, if_false, List.replicate, Nat.reduceAdd, Nat.reduceSub, Nat.reduceLeDiff, Nat.reduceEqDiff, Nat.reduceLT, reduceIte, true_and, and_true, true_implies, false_implies, implies_true, eq_self, not_true_eq_false, not_false_eq_true, Bool.false_eq_true, reduceCtorEq, forall_const, List.headD_cons, Nat.zero_add, true_or, or_true, ne_eq, false_and, and_false, false_or, or_false, Nat.reduceBEq, Bool.false_and, Bool.and_false, Bool.or_false, Bool.false_or, Bool.and_self, Bool.true_and, Bool.and_true, Bool.or_self, z10, z01, zm0, nz1, nz0, cnt0])
        rw [nI_add]
        exact ih (i + 1) v' (by omega) hv' hs'
      simp only [tearsN] at nxt
      have hi10 : i < 10 := by omega
      (refine rb_T_play_1 ?_; simp only [bk_T_play_1, gr_iconst, gr_istoren, st1, clr_0, clr_s, sk_0, sk_s, gr_iloadn, gr_aloadn, gr_getfield, fm_5_0, NI_5, fm_2_8, NI_2, gr_ificmp_ge, fm_2_3, gr_arraylength, gr_iaload, gr_ificmp_ne, fm_2_9, gr_ificmp_eq, fm_5_1, fm_2_4, gr_invokevirtual, NI_1, ps_0, ps_s, pu_n, pu_s, ct_0, ct_i, ct_l, ct_r, gr_iinc, gr_goto, fm_2_5, gr_bipush, fm_2_0, gr_aaload, fm_0_1, NI_0, gr_ifCond_ne, gr_return, NI_13, ra_13, al_13, NI_16, ia_16, ln_16, al_16, NI_17, ia_17, ln_17, al_17, gr_nil, pI_c, pR_c, oI_c, oR_c, lg_i, lg_l, lg_r, lg_n, kI_p, kI_m, lk_0, lk_s, ar_n, ar_c, if_true, if_false, List.replicate, Nat.reduceAdd, Nat.reduceSub, Nat.reduceLeDiff, Nat.reduceEqDiff, Nat.reduceLT, reduceIte, true_and, and_true, true_implies, false_implies, implies_true, eq_self, not_true_eq_false, not_false_eq_true, Bool.false_eq_true, reduceCtorEq, forall_const, List.headD_cons, Nat.zero_add, true_or, or_true, ne_eq, false_and, and_false, false_or, or_false, Nat.reduceBEq, Bool.false_and, Bool.and_false, Bool.or_false, Bool.false_or, Bool.and_self, Bool.true_and, Bool.and_true, Bool.or_self, z10, z01, zm0, nz1, nz0, cnt0, ht, ht2, h8])
      simp (disch := omega) only [nI_leI, nI_ltI, nI_eq, nI_add, pk_mul, nI_clamp, vp_nI, nI_lt0, nI_ge0, nI_eq0, nI_gt0, nI_le0, nI_neg1, neg1_nI, Nat.not_le, Nat.not_lt, if_true, if_false, true_and, and_true, true_implies, false_implies, implies_true, not_true_eq_false, not_false_eq_true, reduceIte, false_or, or_false, false_and, and_false, true_or, or_true, r1, hi10]
      by_cases h : S.td i = a
      · by_cases hsp : i = S.sp
        · have e9 : rd v 2 0 9 = nI i := by rw [h9, if_neg (by omega), hsp]
          rw [e9]
          (repeat' first | with_reducible intro _ | with_reducible apply And.intro) <;> try omega
          · exact nxt v (by rw [if_neg (fun z => z.2 hsp)]; exact hv) hs
          · exact absurd rfl ‹_›
        · have e9 : ¬ nI i = rd v 2 0 9 := by
            rw [h9]
            split
            · simp (disch := omega) only [nI_leI, nI_ltI, nI_eq, nI_add, pk_mul, nI_clamp, vp_nI, nI_lt0, nI_ge0, nI_eq0, nI_gt0, nI_le0, nI_neg1, neg1_nI, Nat.not_le, Nat.not_lt, if_true, if_false, true_and, and_true, true_implies, false_implies, implies_true, not_true_eq_false, not_false_eq_true, reduceIte, false_or, or_false, false_and, and_false, true_or, or_true]
            · simp (disch := omega) only [nI_leI, nI_ltI, nI_eq, nI_add, pk_mul, nI_clamp, vp_nI, nI_lt0, nI_ge0, nI_eq0, nI_gt0, nI_le0, nI_neg1, neg1_nI, Nat.not_le, Nat.not_lt, if_true, if_false, true_and, and_true, true_implies, false_implies, implies_true, not_true_eq_false, not_false_eq_true, reduceIte, false_or, or_false, false_and, and_false, true_or, or_true]; exact hsp
          rw [r2]
          (repeat' first | with_reducible intro _ | with_reducible apply And.intro) <;> try omega
          · exact absurd ‹_› e9
          · refine c_P_pull ht2 r4 hv (fun v' h1 h2 => ?_)
            simp only [gr_iconst, gr_istoren, st1, clr_0, clr_s, sk_0, sk_s, gr_iloadn, gr_aloadn, gr_getfield, fm_5_0, NI_5, fm_2_8, NI_2, gr_ificmp_ge, fm_2_3, gr_arraylength, gr_iaload, gr_ificmp_ne, fm_2_9, gr_ificmp_eq, fm_5_1, fm_2_4, gr_invokevirtual, NI_1, ps_0, ps_s, pu_n, pu_s, ct_0, ct_i, ct_l, ct_r, gr_iinc, gr_goto, fm_2_5, gr_bipush, fm_2_0, gr_aaload, fm_0_1, NI_0, gr_ifCond_ne, gr_return, NI_13, ra_13, al_13, NI_16, ia_16, ln_16, al_16, NI_17, ia_17, ln_17, al_17, gr_nil, pI_c, pR_c, oI_c, oR_c, lg_i, lg_l, lg_r, lg_n, kI_p, kI_m, lk_0, lk_s, ar_n, ar_c, if_true, if_false, List.replicate, Nat.reduceAdd, Nat.reduceSub, Nat.reduceLeDiff, Nat.reduceEqDiff, Nat.reduceLT, reduceIte, true_and, and_true, true_implies, false_implies, implies_true, eq_self, not_true_eq_false, not_false_eq_true, Bool.false_eq_true, reduceCtorEq, forall_const, List.headD_cons, Nat.zero_add, true_or, or_true, ne_eq, false_and, and_false, false_or, or_false, Nat.reduceBEq, Bool.false_and, Bool.and_false, Bool.or_false, Bool.false_or, Bool.and_self, Bool.true_and, Bool.and_true, Bool.or_self, z10, z01, zm0, nz1, nz0, cnt0]
            exact nxt v' (by rw [if_pos ⟨h, hsp⟩]; exact h1) (hs.tr (h2.wk fun c i j hc => ⟨hc.2, by omega⟩))
      · (repeat' first | with_reducible intro _ | with_reducible apply And.intro) <;> try omega
        · exact nxt v (by rw [if_neg (fun z => h z.1)]; exact hv) hs
  exact loop S.m 0 u (by omega) hp Sm.rf
set_option maxHeartbeats 4000000 in
set_option maxRecDepth 100000 in
theorem c_T_playDays {d t b fr : Nat} {S : SC} {R : Nat → Nat} {u : Mem} {Q : Option MV → Mem → Prop} (ht : t < 2) (hb : b ≤ 20) (hf : fr = 14 ∨ fr = 27) (hR : ∀ a, a < b → rd u fr 0 a = nI (R a) ∧ R a < 2 ^ 31) (hn : Pn u S) (hq : ∀ v, Pl v t (wall S R b) → (∀ a, a < b → ∀ c, c < 6 → ∀ k, k < 6 → rd v 22 t ((a * 6 + c) * 6 + k) = fct S R a c k) → Sm (FP t) u v → Q none v) : OKm (d + 3) g_T_playDays [.inr (.inr (5, t)), .inr (.inr (fr, 0)), .inl (nI b)] u Q := by
  have ht2 : t < 12 := by omega
  have main : ∀ v, Pl v t w0 → Sm (FP t) u v → RunB (d + 3) Y_T_playDays 1 [some (.inr (.inr (5, t))), some (.inr (.inr (fr, 0))), some (.inl (nI b)), some (.inl (nI 0))] [] v Q := by
    intro v0 hv0 hs0
    have loop : ∀ (n i : Nat) (v : Mem), i + n = b → Pl v t (wall S R i) → (∀ a, a < i → ∀ c, c < 6 → ∀ k, k < 6 → rd v 22 t ((a * 6 + c) * 6 + k) = fct S R a c k) → Sm (FP t) u v → RunB (d + 3) Y_T_playDays 1 [some (.inr (.inr (5, t))), some (.inr (.inr (fr, 0))), some (.inl (nI b)), some (.inl (nI i))] [] v Q := by
      intro n
      induction n with
      | zero =>
        intro i v hi hv hfc hs
        rcases hf with rfl | rfl
        all_goals
          (refine rb_T_playDays_1 ?_; simp only [bk_T_playDays_1, gr_aloadn, gr_getfield, fm_5_1, NI_5, gr_invokevirtual, NI_1, ps_0, ps_s, pu_n, pu_s, ct_0, ct_i, ct_l, ct_r, gr_iconst, gr_istoren, st1, clr_0, clr_s, sk_0, sk_s, gr_iloadn, gr_ificmp_ge, gr_arraylength, gr_bipush, gr_iaload, gr_iinc, gr_goto, gr_return, NI_14, ia_14, ln_14, al_14, NI_27, ia_27, ln_27, al_27, gr_nil, pI_c, pR_c, oI_c, oR_c, lg_i, lg_l, lg_r, lg_n, kI_p, kI_m, lk_0, lk_s, ar_n, ar_c, if_true, if_false, List.replicate, Nat.reduceAdd, Nat.reduceSub, Nat.reduceLeDiff, Nat.reduceEqDiff, Nat.reduceLT, reduceIte, true_and, and_true, true_implies, false_implies, implies_true, eq_self, not_true_eq_false, not_false_eq_true, Bool.false_eq_true, reduceCtorEq, forall_const, List.headD_cons, Nat.zero_add, true_or, or_true, ne_eq, false_and, and_false, false_or, or_false, Nat.reduceBEq, Bool.false_and, Bool.and_false, Bool.or_false, Bool.false_or, Bool.and_self, Bool.true_and, Bool.and_true, Bool.or_self, z10, z01, zm0, nz1, nz0, cnt0, ht])
          refine ⟨fun _ => ?_, fun h => absurd (nI_le (by omega) (by omega)) h⟩
          (refine rb_T_playDays_2 ?_; simp only [bk_T_playDays_2, gr_aloadn, gr_getfield, fm_5_1, NI_5, gr_invokevirtual, NI_1, ps_0, ps_s, pu_n, pu_s, ct_0, ct_i, ct_l, ct_r, gr_iconst, gr_istoren, st1, clr_0, clr_s, sk_0, sk_s, gr_iloadn, gr_ificmp_ge, gr_arraylength, gr_bipush, gr_iaload, gr_iinc, gr_goto, gr_return, gr_nil, pI_c, pR_c, oI_c, oR_c, lg_i, lg_l, lg_r, lg_n, kI_p, kI_m, lk_0, lk_s, ar_n, ar_c, if_true, if_false, List.replicate, Nat.reduceAdd, Nat.reduceSub, Nat.reduceLeDiff, Nat.reduceEqDiff, Nat.reduceLT, reduceIte, true_and, and_true, true_implies, false_implies, implies_true, eq_self, not_true_eq_false, not_false_eq_true, Bool.false_eq_true, reduceCtorEq, forall_const, List.headD_cons, Nat.zero_add, true_or, or_true, ne_eq, false_and, and_false, false_or, or_false, Nat.reduceBEq, Bool.false_and, Bool.and_false, Bool.or_false, Bool.false_or, Bool.and_self, Bool.true_and, Bool.and_true, Bool.or_self, z10, z01, zm0, nz1, nz0, cnt0])
          rw [show b = i by omega] at hq
          exact hq v hv hfc hs
      | succ n ih =>
        intro i v hi hv hfc hs
        have hn' : Pn v S := hn.sm hs
        have hri : rd v fr 0 i = nI (R i) := by rw [hs.1 _ _ _ (by rintro ⟨h, -⟩; omega)]; exact (hR i (by omega)).1
        have go1 : OKm (d + 2) g_T_play [.inr (.inr (5, t)), .inl (nI i), .inl (nI (R i))] v (fun z u' => RunB (d + 3) Y_T_playDays 1 [some (.inr (.inr (5, t))), some (.inr (.inr (fr, 0))), some (.inl (nI b)), some (.inl (nI (i + 1)))] (pushR z []) u' Q) := by
          refine c_T_play ht (by omega) (hR i (by omega)).2 hn' hv (WI_wall S R i) (fun v' h1 h2 h3 => ?_)
          refine ih (i + 1) v' (by omega) h1 (fun a ha c hc k hk => ?_) (hs.tr h3.fp)
          by_cases e : a = i
          · subst e; exact h2 c hc k hk
          · rw [h3.1 _ _ _ (by rintro ⟨-, h4⟩; omega)]
            exact hfc a (by omega) c hc k hk
        rcases hf with rfl | rfl
        all_goals
          (refine rb_T_playDays_1 ?_; simp only [bk_T_playDays_1, gr_aloadn, gr_getfield, fm_5_1, NI_5, gr_invokevirtual, NI_1, ps_0, ps_s, pu_n, pu_s, ct_0, ct_i, ct_l, ct_r, gr_iconst, gr_istoren, st1, clr_0, clr_s, sk_0, sk_s, gr_iloadn, gr_ificmp_ge, gr_arraylength, gr_bipush, gr_iaload, gr_iinc, gr_goto, gr_return, NI_14, ia_14, ln_14, al_14, NI_27, ia_27, ln_27, al_27, gr_nil, pI_c, pR_c, oI_c, oR_c, lg_i, lg_l, lg_r, lg_n, kI_p, kI_m, lk_0, lk_s, ar_n, ar_c, if_true, if_false, List.replicate, Nat.reduceAdd, Nat.reduceSub, Nat.reduceLeDiff, Nat.reduceEqDiff, Nat.reduceLT, reduceIte, true_and, and_true, true_implies, false_implies, implies_true, eq_self, not_true_eq_false, not_false_eq_true, Bool.false_eq_true, reduceCtorEq, forall_const, List.headD_cons, Nat.zero_add, true_or, or_true, ne_eq, false_and, and_false, false_or, or_false, Nat.reduceBEq, Bool.false_and, Bool.and_false, Bool.or_false, Bool.false_or, Bool.and_self, Bool.true_and, Bool.and_true, Bool.or_self, z10, z01, zm0, nz1, nz0, cnt0, ht])
          simp (disch := omega) only [nI_leI, nI_ltI, nI_eq, nI_add, pk_mul, nI_clamp, vp_nI, nI_lt0, nI_ge0, nI_eq0, nI_gt0, nI_le0, nI_neg1, neg1_nI, Nat.not_le, Nat.not_lt, if_true, if_false, true_and, and_true, true_implies, false_implies, implies_true, not_true_eq_false, not_false_eq_true, reduceIte, false_or, or_false, false_and, and_false, true_or, or_true, hri]
          (repeat' first | with_reducible intro _ | with_reducible apply And.intro) <;> try omega
          try exact go1
    exact loop b 0 v0 (by omega) hv0 (fun a ha => by omega) hs0
  refine en_T_playDays _ (Nat.le_of_ble_eq_true rfl) (rb_T_playDays_0 ?_)
  simp only [bk_T_playDays_0, gr_aloadn, gr_getfield, fm_5_1, NI_5, gr_invokevirtual, NI_1, ps_0, ps_s, pu_n, pu_s, ct_0, ct_i, ct_l, ct_r, gr_iconst, gr_istoren, st1, clr_0, clr_s, sk_0, sk_s, gr_iloadn, gr_ificmp_ge, gr_arraylength, gr_bipush, gr_iaload, gr_iinc, gr_goto, gr_return, gr_nil, pI_c, pR_c, oI_c, oR_c, lg_i, lg_l, lg_r, lg_n, kI_p, kI_m, lk_0, lk_s, ar_n, ar_c, if_true, if_false, List.replicate, Nat.reduceAdd, Nat.reduceSub, Nat.reduceLeDiff, Nat.reduceEqDiff, Nat.reduceLT, reduceIte, true_and, and_true, true_implies, false_implies, implies_true, eq_self, not_true_eq_false, not_false_eq_true, Bool.false_eq_true, reduceCtorEq, forall_const, List.headD_cons, Nat.zero_add, true_or, or_true, ne_eq, false_and, and_false, false_or, or_false, Nat.reduceBEq, Bool.false_and, Bool.and_false, Bool.or_false, Bool.false_or, Bool.and_self, Bool.true_and, Bool.and_true, Bool.or_self, z10, z01, zm0, nz1, nz0, cnt0, ht, ht2]
  refine c_P_clear ht2 (fun v h1 h2 => ?_)
  simp only [gr_aloadn, gr_getfield, fm_5_1, NI_5, gr_invokevirtual, NI_1, ps_0, ps_s, pu_n, pu_s, ct_0, ct_i, ct_l, ct_r, gr_iconst, gr_istoren, st1, clr_0, clr_s, sk_0, sk_s, gr_iloadn, gr_ificmp_ge, gr_arraylength, gr_bipush, gr_iaload, gr_iinc, gr_goto, gr_return, gr_nil, pI_c, pR_c, oI_c, oR_c, lg_i, lg_l, lg_r, lg_n, kI_p, kI_m, lk_0, lk_s, ar_n, ar_c, if_true, if_false, List.replicate, Nat.reduceAdd, Nat.reduceSub, Nat.reduceLeDiff, Nat.reduceEqDiff, Nat.reduceLT, reduceIte, true_and, and_true, true_implies, false_implies, implies_true, eq_self, not_true_eq_false, not_false_eq_true, Bool.false_eq_true, reduceCtorEq, forall_const, List.headD_cons, Nat.zero_add, true_or, or_true, ne_eq, false_and, and_false, false_or, or_false, Nat.reduceBEq, Bool.false_and, Bool.and_false, Bool.or_false, Bool.false_or, Bool.and_self, Bool.true_and, Bool.and_true, Bool.or_self, z10, z01, zm0, nz1, nz0, cnt0]
  exact main v h1 (h2.wk fun c i j hc => ⟨by omega, hc.2⟩)
end
section
def obN (V f : Nat → Int32) : Nat → Bool
  | 0 => true
  | c + 1 => obN V f c && (decide (V c = -nI 1) || decide (V c = f c))
def obB (V : Nat → Int32) (lc : Nat) (f : Nat → Int32) : Bool := decide (lc ≠ 0) && obN V f 6
theorem obN_mono (V f : Nat → Int32) : ∀ n k, obN V f k = false → k ≤ n → obN V f n = false := by
  intro n
  induction n with
  | zero => intro k h hk; rw [show k = 0 by omega] at h; exact h
  | succ n ih =>
    intro k h hk
    by_cases e : k = n + 1
    · rw [← e]; exact h
    · simp only [obN, ih k h (by omega), Bool.false_and]
def dO (V : Nat → Int32) (lc : Nat) (F : Nat → Nat → Nat → Int32) : Nat → Nat
  | 0 => 0
  | a + 1 => dO V lc F a + (if obB V lc (fun c => F a c 0) = true then 1 else 0)
def rdN (F : Nat → Nat → Nat → Int32) (a : Nat) (x : Int32) : Nat → Bool
  | 0 => false
  | c + 1 => rdN F a x c || (decide (F a c 1 = x) && !decide (F a c 0 = -nI 1))
theorem rdN_mono (F : Nat → Nat → Nat → Int32) (a : Nat) (x : Int32) : ∀ n k, rdN F a x k = true → k ≤ n → rdN F a x n = true := by
  intro n
  induction n with
  | zero => intro k h hk; rw [show k = 0 by omega] at h; exact h
  | succ n ih =>
    intro k h hk
    by_cases e : k = n + 1
    · rw [← e]; exact h
    · simp only [rdN, ih k h (by omega), Bool.true_or]
def dR (F : Nat → Nat → Nat → Int32) (x : Int32) : Nat → Nat
  | 0 => 0
  | a + 1 => dR F x a + (if rdN F a x 6 = true then 1 else 0)
def ubN (F : Nat → Nat → Nat → Int32) : Nat → Int32
  | 0 => nI 0
  | k + 1 => if dR F (nI k) 20 = 0 then ubN F k ||| (nI 1 <<< (nI k &&& 31)) else ubN F k
def Lw (u : Mem) (V : Nat → Int32) (lc : Nat) : Prop := (∀ c, c < 6 → rd u 15 0 c = V c) ∧ rd u 2 0 7 = nI lc ∧ lc ≤ 6
theorem Lw.keep {u v : Mem} {V : Nat → Int32} {lc : Nat} (h : Lw u V lc) (hv : ∀ c i j, (c = 2 ∨ c = 15) → rd v c i j = rd u c i j) : Lw v V lc := ⟨fun c hc => by rw [hv _ _ _ (Or.inr rfl)]; exact h.1 c hc, by rw [hv _ _ _ (Or.inl rfl)]; exact h.2.1, h.2.2⟩
theorem Lw.sm {u v : Mem} {V : Nat → Int32} {lc t : Nat} (h : Lw u V lc) (hs : Sm (FP t) u v) : Lw v V lc := h.keep fun c i j hc => hs.1 c i j (by rintro ⟨h1, -⟩; omega)
/-- the facts of stage t, of the first b days -/
def FT (u : Mem) (t b : Nat) (F : Nat → Nat → Nat → Int32) : Prop := ∀ a, a < b → ∀ c, c < 6 → ∀ k, k < 6 → rd u 22 t ((a * 6 + c) * 6 + k) = F a c k
theorem dO_le (V : Nat → Int32) (lc : Nat) (F : Nat → Nat → Nat → Int32) : ∀ a, dO V lc F a ≤ a := by
  intro a
  induction a with
  | zero => exact Nat.le_refl _
  | succ a ih => simp only [dO]; split <;> omega
theorem dR_le (F : Nat → Nat → Nat → Int32) (x : Int32) : ∀ a, dR F x a ≤ a := by
  intro a
  induction a with
  | zero => exact Nat.le_refl _
  | succ a ih => simp only [dR]; split <;> omega
set_option maxHeartbeats 4000000 in
set_option maxRecDepth 100000 in
theorem c_T_obeys {d t a lc : Nat} {V : Nat → Int32} {F : Nat → Int32} {u : Mem} {Q : Option MV → Mem → Prop} (ht : t < 2) (ha : a < 20) (hl : Lw u V lc) (hF : ∀ c, c < 6 → rd u 22 t ((a * 6 + c) * 6 + 0) = F c) (h1 : obB V lc F = true → Q (some (.inl (nI 1))) u) (h0 : obB V lc F = false → Q (some (.inl (nI 0))) u) : OKm (d + 3) g_T_obeys [.inr (.inr (5, t)), .inl (nI a)] u Q := by
  have h7 := hl.2.1
  have hlc := hl.2.2
  refine en_T_obeys _ (Nat.le_of_ble_eq_true rfl) (rb_T_obeys_0 ?_)
  simp only [bk_T_obeys_0, gr_aloadn, gr_getfield, fm_5_0, NI_5, fm_2_7, NI_2, gr_ifCond_ne, gr_iconst, gr_ireturn, gr_istoren, st1, clr_0, clr_s, sk_0, sk_s, gr_iloadn, gr_bipush, gr_ificmp_ge, fm_2_2, gr_iaload, gr_ificmp_eq, gr_invokevirtual, ps_0, ps_s, pu_n, pu_s, ct_0, ct_i, ct_l, ct_r, gr_iinc, gr_goto, NI_15, ia_15, ln_15, al_15, gr_nil, pI_c, pR_c, oI_c, oR_c, lg_i, lg_l, lg_r, lg_n, kI_p, kI_m, lk_0, lk_s, ar_n, ar_c, if_true, if_false, List.replicate, Nat.reduceAdd, Nat.reduceSub, Nat.reduceLeDiff, Nat.reduceEqDiff, Nat.reduceLT, reduceIte, true_and, and_true, true_implies, false_implies, implies_true, eq_self, not_true_eq_false, not_false_eq_true, Bool.false_eq_true, reduceCtorEq, forall_const, List.headD_cons, Nat.zero_add, true_or, or_true, ne_eq, false_and, and_false, false_or, or_false, Nat.reduceBEq, Bool.false_and, Bool.and_false, Bool.or_false, Bool.false_or, Bool.and_self, Bool.true_and, Bool.and_true, Bool.or_self, z10, z01, zm0, nz1, nz0, cnt0, ht, h7]
  simp (disch := omega) only [nI_leI, nI_ltI, nI_eq, nI_add, pk_mul, nI_clamp, vp_nI, nI_lt0, nI_ge0, nI_eq0, nI_gt0, nI_le0, nI_neg1, neg1_nI, Nat.not_le, Nat.not_lt, if_true, if_false, true_and, and_true, true_implies, false_implies, implies_true, not_true_eq_false, not_false_eq_true, reduceIte, false_or, or_false, false_and, and_false, true_or, or_true]
  refine ⟨fun hz => ?_, fun hz => h0 (by simp [obB, hz])⟩
  (refine rb_T_obeys_1 ?_; simp only [bk_T_obeys_1, gr_aloadn, gr_getfield, fm_5_0, NI_5, fm_2_7, NI_2, gr_ifCond_ne, gr_iconst, gr_ireturn, gr_istoren, st1, clr_0, clr_s, sk_0, sk_s, gr_iloadn, gr_bipush, gr_ificmp_ge, fm_2_2, gr_iaload, gr_ificmp_eq, gr_invokevirtual, ps_0, ps_s, pu_n, pu_s, ct_0, ct_i, ct_l, ct_r, gr_iinc, gr_goto, NI_15, ia_15, ln_15, al_15, gr_nil, pI_c, pR_c, oI_c, oR_c, lg_i, lg_l, lg_r, lg_n, kI_p, kI_m, lk_0, lk_s, ar_n, ar_c, if_true, if_false, List.replicate, Nat.reduceAdd, Nat.reduceSub, Nat.reduceLeDiff, Nat.reduceEqDiff, Nat.reduceLT, reduceIte, true_and, and_true, true_implies, false_implies, implies_true, eq_self, not_true_eq_false, not_false_eq_true, Bool.false_eq_true, reduceCtorEq, forall_const, List.headD_cons, Nat.zero_add, true_or, or_true, ne_eq, false_and, and_false, false_or, or_false, Nat.reduceBEq, Bool.false_and, Bool.and_false, Bool.or_false, Bool.false_or, Bool.and_self, Bool.true_and, Bool.and_true, Bool.or_self, z10, z01, zm0, nz1, nz0, cnt0])
  have loop : ∀ (n i : Nat) (y : Option MV), i + n = 6 → obN V F i = true → RunB (d + 3) Y_T_obeys 2 [some (.inr (.inr (5, t))), some (.inl (nI a)), some (.inl (nI i)), y] [] u Q := by
    intro n
    induction n with
    | zero =>
      intro i y hi hb
      (refine rb_T_obeys_2 ?_; simp only [bk_T_obeys_2, gr_aloadn, gr_getfield, fm_5_0, NI_5, fm_2_7, NI_2, gr_ifCond_ne, gr_iconst, gr_ireturn, gr_istoren, st1, clr_0, clr_s, sk_0, sk_s, gr_iloadn, gr_bipush, gr_ificmp_ge, fm_2_2, gr_iaload, gr_ificmp_eq, gr_invokevirtual, ps_0, ps_s, pu_n, pu_s, ct_0, ct_i, ct_l, ct_r, gr_iinc, gr_goto, NI_15, ia_15, ln_15, al_15, gr_nil, pI_c, pR_c, oI_c, oR_c, lg_i, lg_l, lg_r, lg_n, kI_p, kI_m, lk_0, lk_s, ar_n, ar_c, if_true, if_false, List.replicate, Nat.reduceAdd, Nat.reduceSub, Nat.reduceLeDiff, Nat.reduceEqDiff, Nat.reduceLT, reduceIte, true_and, and_true, true_implies, false_implies, implies_true, eq_self, not_true_eq_false, not_false_eq_true, Bool.false_eq_true, reduceCtorEq, forall_const, List.headD_cons, Nat.zero_add, true_or, or_true, ne_eq, false_and, and_false, false_or, or_false, Nat.reduceBEq, Bool.false_and, Bool.and_false, Bool.or_false, Bool.false_or, Bool.and_self, Bool.true_and, Bool.and_true, Bool.or_self, z10, z01, zm0, nz1, nz0, cnt0, ht])
      refine ⟨fun _ => ?_, fun h => absurd (nI_le (by omega) (by omega)) h⟩
      (refine rb_T_obeys_4 ?_; simp only [bk_T_obeys_4, gr_aloadn, gr_getfield, fm_5_0, NI_5, fm_2_7, NI_2, gr_ifCond_ne, gr_iconst, gr_ireturn, gr_istoren, st1, clr_0, clr_s, sk_0, sk_s, gr_iloadn, gr_bipush, gr_ificmp_ge, fm_2_2, gr_iaload, gr_ificmp_eq, gr_invokevirtual, ps_0, ps_s, pu_n, pu_s, ct_0, ct_i, ct_l, ct_r, gr_iinc, gr_goto, NI_15, ia_15, ln_15, al_15, gr_nil, pI_c, pR_c, oI_c, oR_c, lg_i, lg_l, lg_r, lg_n, kI_p, kI_m, lk_0, lk_s, ar_n, ar_c, if_true, if_false, List.replicate, Nat.reduceAdd, Nat.reduceSub, Nat.reduceLeDiff, Nat.reduceEqDiff, Nat.reduceLT, reduceIte, true_and, and_true, true_implies, false_implies, implies_true, eq_self, not_true_eq_false, not_false_eq_true, Bool.false_eq_true, reduceCtorEq, forall_const, List.headD_cons, Nat.zero_add, true_or, or_true, ne_eq, false_and, and_false, false_or, or_false, Nat.reduceBEq, Bool.false_and, Bool.and_false, Bool.or_false, Bool.false_or, Bool.and_self, Bool.true_and, Bool.and_true, Bool.or_self, z10, z01, zm0, nz1, nz0, cnt0])
      rw [show i = 6 by omega] at hb
      exact h1 (by simp [obB, hz, hb])
    | succ n ih =>
      intro i y hi hb
      have hi6 : i < 6 := by omega
      have nxt : ∀ y, obN V F (i + 1) = true → RunB (d + 3) Y_T_obeys 3 [some (.inr (.inr (5, t))), some (.inl (nI a)), some (.inl (nI i)), y] [] u Q := by
        intro y hb'
        (refine rb_T_obeys_3 ?_; simp only [bk_T_obeys_3, gr_aloadn, gr_getfield, fm_5_0, NI_5, fm_2_7, NI_2, gr_ifCond_ne, gr_iconst, gr_ireturn, gr_istoren, st1, clr_0, clr_s, sk_0, sk_s, gr_iloadn, gr_bipush, gr_ificmp_ge, fm_2_2, gr_iaload, gr_ificmp_eq, gr_invokevirtual, ps_0, ps_s, pu_n, pu_s, ct_0, ct_i, ct_l, ct_r, gr_iinc, gr_goto, NI_15, ia_15, ln_15, al_15, gr_nil, pI_c, pR_c, oI_c, oR_c, lg_i, lg_l, lg_r, lg_n, kI_p, kI_m, lk_0, lk_s, ar_n, ar_c, if_true, if_false, List.replicate, Nat.reduceAdd, Nat.reduceSub, Nat.reduceLeDiff, Nat.reduceEqDiff, Nat.reduceLT, reduceIte, true_and, and_true, true_implies, false_implies, implies_true, eq_self, not_true_eq_false, not_false_eq_true, Bool.false_eq_true, reduceCtorEq, forall_const, List.headD_cons, Nat.zero_add, true_or, or_true, ne_eq, false_and, and_false, false_or, or_false, Nat.reduceBEq, Bool.false_and, Bool.and_false, Bool.or_false, Bool.false_or, Bool.and_self, Bool.true_and, Bool.and_true, Bool.or_self, z10, z01, zm0, nz1, nz0, cnt0])
        rw [nI_add]
        exact ih (i + 1) y (by omega) hb'
      (refine rb_T_obeys_2 ?_; simp only [bk_T_obeys_2, gr_aloadn, gr_getfield, fm_5_0, NI_5, fm_2_7, NI_2, gr_ifCond_ne, gr_iconst, gr_ireturn, gr_istoren, st1, clr_0, clr_s, sk_0, sk_s, gr_iloadn, gr_bipush, gr_ificmp_ge, fm_2_2, gr_iaload, gr_ificmp_eq, gr_invokevirtual, ps_0, ps_s, pu_n, pu_s, ct_0, ct_i, ct_l, ct_r, gr_iinc, gr_goto, NI_15, ia_15, ln_15, al_15, gr_nil, pI_c, pR_c, oI_c, oR_c, lg_i, lg_l, lg_r, lg_n, kI_p, kI_m, lk_0, lk_s, ar_n, ar_c, if_true, if_false, List.replicate, Nat.reduceAdd, Nat.reduceSub, Nat.reduceLeDiff, Nat.reduceEqDiff, Nat.reduceLT, reduceIte, true_and, and_true, true_implies, false_implies, implies_true, eq_self, not_true_eq_false, not_false_eq_true, Bool.false_eq_true, reduceCtorEq, forall_const, List.headD_cons, Nat.zero_add, true_or, or_true, ne_eq, false_and, and_false, false_or, or_false, Nat.reduceBEq, Bool.false_and, Bool.and_false, Bool.or_false, Bool.false_or, Bool.and_self, Bool.true_and, Bool.and_true, Bool.or_self, z10, z01, zm0, nz1, nz0, cnt0, ht])
      simp (disch := omega) only [nI_leI, nI_ltI, nI_eq, nI_add, pk_mul, nI_clamp, vp_nI, nI_lt0, nI_ge0, nI_eq0, nI_gt0, nI_le0, nI_neg1, neg1_nI, Nat.not_le, Nat.not_lt, if_true, if_false, true_and, and_true, true_implies, false_implies, implies_true, not_true_eq_false, not_false_eq_true, reduceIte, false_or, or_false, false_and, and_false, true_or, or_true, hl.1 i hi6]
      by_cases e1 : V i = -nI 1
      · (repeat' first | with_reducible intro _ | with_reducible apply And.intro) <;> try omega
        · exact nxt _ (by simp [obN, hb, e1])
        · exact absurd e1 ‹_›
      · (repeat' first | with_reducible intro _ | with_reducible apply And.intro) <;> try omega
        · exact absurd ‹_› e1
        · refine c_T_fact ht ha hi6 (by omega) ?_
          simp only [gr_aloadn, gr_getfield, fm_5_0, NI_5, fm_2_7, NI_2, gr_ifCond_ne, gr_iconst, gr_ireturn, gr_istoren, st1, clr_0, clr_s, sk_0, sk_s, gr_iloadn, gr_bipush, gr_ificmp_ge, fm_2_2, gr_iaload, gr_ificmp_eq, gr_invokevirtual, ps_0, ps_s, pu_n, pu_s, ct_0, ct_i, ct_l, ct_r, gr_iinc, gr_goto, NI_15, ia_15, ln_15, al_15, gr_nil, pI_c, pR_c, oI_c, oR_c, lg_i, lg_l, lg_r, lg_n, kI_p, kI_m, lk_0, lk_s, ar_n, ar_c, if_true, if_false, List.replicate, Nat.reduceAdd, Nat.reduceSub, Nat.reduceLeDiff, Nat.reduceEqDiff, Nat.reduceLT, reduceIte, true_and, and_true, true_implies, false_implies, implies_true, eq_self, not_true_eq_false, not_false_eq_true, Bool.false_eq_true, reduceCtorEq, forall_const, List.headD_cons, Nat.zero_add, true_or, or_true, ne_eq, false_and, and_false, false_or, or_false, Nat.reduceBEq, Bool.false_and, Bool.and_false, Bool.or_false, Bool.false_or, Bool.and_self, Bool.true_and, Bool.and_true, Bool.or_self, z10, z01, zm0, nz1, nz0, cnt0]
          rw [show rd u 22 t ((a * 6 + i) * 6) = F i from hF i hi6]
          refine ⟨fun e2 => nxt _ (by simp [obN, hb, e2]), fun e2 => h0 ?_⟩
          simp only [obB, obN_mono V F 6 (i + 1) (by simp [obN, hb, e1, e2]) (by omega), Bool.and_false]
  exact loop 6 0 _ (by omega) rfl
set_option maxHeartbeats 4000000 in
set_option maxRecDepth 100000 in
theorem c_T_daysObeyed {d t lc : Nat} {V : Nat → Int32} {F : Nat → Nat → Nat → Int32} {u : Mem} {Q : Option MV → Mem → Prop} (ht : t < 2) (hl : Lw u V lc) (hF : FT u t 20 F) (hq : Q (some (.inl (nI (dO V lc F 20)))) u) : OKm (d + 4) g_T_daysObeyed [.inr (.inr (5, t))] u Q := by
  refine en_T_daysObeyed _ (Nat.le_of_ble_eq_true rfl) (rb_T_daysObeyed_0 ?_)
  simp only [bk_T_daysObeyed_0, gr_iconst, gr_istoren, st1, clr_0, clr_s, sk_0, sk_s, gr_iloadn, gr_bipush, gr_ificmp_ge, gr_aloadn, gr_invokevirtual, NI_5, ps_0, ps_s, pu_n, pu_s, ct_0, ct_i, ct_l, ct_r, gr_ifCond_eq, gr_iinc, gr_goto, gr_ireturn, gr_nil, pI_c, pR_c, oI_c, oR_c, lg_i, lg_l, lg_r, lg_n, kI_p, kI_m, lk_0, lk_s, ar_n, ar_c, if_true, if_false, List.replicate, Nat.reduceAdd, Nat.reduceSub, Nat.reduceLeDiff, Nat.reduceEqDiff, Nat.reduceLT, reduceIte, true_and, and_true, true_implies, false_implies, implies_true, eq_self, not_true_eq_false, not_false_eq_true, Bool.false_eq_true, reduceCtorEq, forall_const, List.headD_cons, Nat.zero_add, true_or, or_true, ne_eq, false_and, and_false, false_or, or_false, Nat.reduceBEq, Bool.false_and, Bool.and_false, Bool.or_false, Bool.false_or, Bool.and_self, Bool.true_and, Bool.and_true, Bool.or_self, z10, z01, zm0, nz1, nz0, cnt0]
  have loop : ∀ (n i : Nat), i + n = 20 → RunB (d + 4) Y_T_daysObeyed 1 [some (.inr (.inr (5, t))), some (.inl (nI (dO V lc F i))), some (.inl (nI i))] [] u Q := by
    intro n
    induction n with
    | zero =>
      intro i hi
      (refine rb_T_daysObeyed_1 ?_; simp only [bk_T_daysObeyed_1, gr_iconst, gr_istoren, st1, clr_0, clr_s, sk_0, sk_s, gr_iloadn, gr_bipush, gr_ificmp_ge, gr_aloadn, gr_invokevirtual, NI_5, ps_0, ps_s, pu_n, pu_s, ct_0, ct_i, ct_l, ct_r, gr_ifCond_eq, gr_iinc, gr_goto, gr_ireturn, gr_nil, pI_c, pR_c, oI_c, oR_c, lg_i, lg_l, lg_r, lg_n, kI_p, kI_m, lk_0, lk_s, ar_n, ar_c, if_true, if_false, List.replicate, Nat.reduceAdd, Nat.reduceSub, Nat.reduceLeDiff, Nat.reduceEqDiff, Nat.reduceLT, reduceIte, true_and, and_true, true_implies, false_implies, implies_true, eq_self, not_true_eq_false, not_false_eq_true, Bool.false_eq_true, reduceCtorEq, forall_const, List.headD_cons, Nat.zero_add, true_or, or_true, ne_eq, false_and, and_false, false_or, or_false, Nat.reduceBEq, Bool.false_and, Bool.and_false, Bool.or_false, Bool.false_or, Bool.and_self, Bool.true_and, Bool.and_true, Bool.or_self, z10, z01, zm0, nz1, nz0, cnt0, ht])
      refine ⟨fun _ => ?_, fun h => absurd (nI_le (by omega) (by omega)) h⟩
      (refine rb_T_daysObeyed_3 ?_; simp only [bk_T_daysObeyed_3, gr_iconst, gr_istoren, st1, clr_0, clr_s, sk_0, sk_s, gr_iloadn, gr_bipush, gr_ificmp_ge, gr_aloadn, gr_invokevirtual, NI_5, ps_0, ps_s, pu_n, pu_s, ct_0, ct_i, ct_l, ct_r, gr_ifCond_eq, gr_iinc, gr_goto, gr_ireturn, gr_nil, pI_c, pR_c, oI_c, oR_c, lg_i, lg_l, lg_r, lg_n, kI_p, kI_m, lk_0, lk_s, ar_n, ar_c, if_true, if_false, List.replicate, Nat.reduceAdd, Nat.reduceSub, Nat.reduceLeDiff, Nat.reduceEqDiff, Nat.reduceLT, reduceIte, true_and, and_true, true_implies, false_implies, implies_true, eq_self, not_true_eq_false, not_false_eq_true, Bool.false_eq_true, reduceCtorEq, forall_const, List.headD_cons, Nat.zero_add, true_or, or_true, ne_eq, false_and, and_false, false_or, or_false, Nat.reduceBEq, Bool.false_and, Bool.and_false, Bool.or_false, Bool.false_or, Bool.and_self, Bool.true_and, Bool.and_true, Bool.or_self, z10, z01, zm0, nz1, nz0, cnt0])
      rw [show i = 20 by omega]
      exact hq
    | succ n ih =>
      intro i hi
      have ih' := ih (i + 1) (by omega)
      simp only [dO] at ih'
      (refine rb_T_daysObeyed_1 ?_; simp only [bk_T_daysObeyed_1, gr_iconst, gr_istoren, st1, clr_0, clr_s, sk_0, sk_s, gr_iloadn, gr_bipush, gr_ificmp_ge, gr_aloadn, gr_invokevirtual, NI_5, ps_0, ps_s, pu_n, pu_s, ct_0, ct_i, ct_l, ct_r, gr_ifCond_eq, gr_iinc, gr_goto, gr_ireturn, gr_nil, pI_c, pR_c, oI_c, oR_c, lg_i, lg_l, lg_r, lg_n, kI_p, kI_m, lk_0, lk_s, ar_n, ar_c, if_true, if_false, List.replicate, Nat.reduceAdd, Nat.reduceSub, Nat.reduceLeDiff, Nat.reduceEqDiff, Nat.reduceLT, reduceIte, true_and, and_true, true_implies, false_implies, implies_true, eq_self, not_true_eq_false, not_false_eq_true, Bool.false_eq_true, reduceCtorEq, forall_const, List.headD_cons, Nat.zero_add, true_or, or_true, ne_eq, false_and, and_false, false_or, or_false, Nat.reduceBEq, Bool.false_and, Bool.and_false, Bool.or_false, Bool.false_or, Bool.and_self, Bool.true_and, Bool.and_true, Bool.or_self, z10, z01, zm0, nz1, nz0, cnt0, ht])
      refine ⟨fun h => absurd h (nI_ge (by omega) (by omega)), fun _ => ?_⟩
      refine c_T_obeys ht (by omega) hl (F := fun c => F i c 0) (fun c hc => hF i (by omega) c hc 0 (by omega)) (fun hb => ?_) (fun hb => ?_)
      · rw [if_pos hb] at ih'
        simp only [gr_iconst, gr_istoren, st1, clr_0, clr_s, sk_0, sk_s, gr_iloadn, gr_bipush, gr_ificmp_ge, gr_aloadn, gr_invokevirtual, NI_5, ps_0, ps_s, pu_n, pu_s, ct_0, ct_i, ct_l, ct_r, gr_ifCond_eq, gr_iinc, gr_goto, gr_ireturn, gr_nil, pI_c, pR_c, oI_c, oR_c, lg_i, lg_l, lg_r, lg_n, kI_p, kI_m, lk_0, lk_s, ar_n, ar_c, if_true, if_false, List.replicate, Nat.reduceAdd, Nat.reduceSub, Nat.reduceLeDiff, Nat.reduceEqDiff, Nat.reduceLT, reduceIte, true_and, and_true, true_implies, false_implies, implies_true, eq_self, not_true_eq_false, not_false_eq_true, Bool.false_eq_true, reduceCtorEq, forall_const, List.headD_cons, Nat.zero_add, true_or, or_true, ne_eq, false_and, and_false, false_or, or_false, Nat.reduceBEq, Bool.false_and, Bool.and_false, Bool.or_false, Bool.false_or, Bool.and_self, Bool.true_and, Bool.and_true, Bool.or_self, z10, z01, zm0, nz1, nz0, cnt0]
        (refine rb_T_daysObeyed_2 ?_; simp only [bk_T_daysObeyed_2, gr_iconst, gr_istoren, st1, clr_0, clr_s, sk_0, sk_s, gr_iloadn, gr_bipush, gr_ificmp_ge, gr_aloadn, gr_invokevirtual, NI_5, ps_0, ps_s, pu_n, pu_s, ct_0, ct_i, ct_l, ct_r, gr_ifCond_eq, gr_iinc, gr_goto, gr_ireturn, gr_nil, pI_c, pR_c, oI_c, oR_c, lg_i, lg_l, lg_r, lg_n, kI_p, kI_m, lk_0, lk_s, ar_n, ar_c, if_true, if_false, List.replicate, Nat.reduceAdd, Nat.reduceSub, Nat.reduceLeDiff, Nat.reduceEqDiff, Nat.reduceLT, reduceIte, true_and, and_true, true_implies, false_implies, implies_true, eq_self, not_true_eq_false, not_false_eq_true, Bool.false_eq_true, reduceCtorEq, forall_const, List.headD_cons, Nat.zero_add, true_or, or_true, ne_eq, false_and, and_false, false_or, or_false, Nat.reduceBEq, Bool.false_and, Bool.and_false, Bool.or_false, Bool.false_or, Bool.and_self, Bool.true_and, Bool.and_true, Bool.or_self, z10, z01, zm0, nz1, nz0, cnt0])
        simp only [nI_add]
        exact ih'
      · rw [if_neg (by simp [hb])] at ih'
        simp only [gr_iconst, gr_istoren, st1, clr_0, clr_s, sk_0, sk_s, gr_iloadn, gr_bipush, gr_ificmp_ge, gr_aloadn, gr_invokevirtual, NI_5, ps_0, ps_s, pu_n, pu_s, ct_0, ct_i, ct_l, ct_r, gr_ifCond_eq, gr_iinc, gr_goto, gr_ireturn, gr_nil, pI_c, pR_c, oI_c, oR_c, lg_i, lg_l, lg_r, lg_n, kI_p, kI_m, lk_0, lk_s, ar_n, ar_c, if_true, if_false, List.replicate, Nat.reduceAdd, Nat.reduceSub, Nat.reduceLeDiff, Nat.reduceEqDiff, Nat.reduceLT, reduceIte, true_and, and_true, true_implies, false_implies, implies_true, eq_self, not_true_eq_false, not_false_eq_true, Bool.false_eq_true, reduceCtorEq, forall_const, List.headD_cons, Nat.zero_add, true_or, or_true, ne_eq, false_and, and_false, false_or, or_false, Nat.reduceBEq, Bool.false_and, Bool.and_false, Bool.or_false, Bool.false_or, Bool.and_self, Bool.true_and, Bool.and_true, Bool.or_self, z10, z01, zm0, nz1, nz0, cnt0]
        (refine rb_T_daysObeyed_2 ?_; simp only [bk_T_daysObeyed_2, gr_iconst, gr_istoren, st1, clr_0, clr_s, sk_0, sk_s, gr_iloadn, gr_bipush, gr_ificmp_ge, gr_aloadn, gr_invokevirtual, NI_5, ps_0, ps_s, pu_n, pu_s, ct_0, ct_i, ct_l, ct_r, gr_ifCond_eq, gr_iinc, gr_goto, gr_ireturn, gr_nil, pI_c, pR_c, oI_c, oR_c, lg_i, lg_l, lg_r, lg_n, kI_p, kI_m, lk_0, lk_s, ar_n, ar_c, if_true, if_false, List.replicate, Nat.reduceAdd, Nat.reduceSub, Nat.reduceLeDiff, Nat.reduceEqDiff, Nat.reduceLT, reduceIte, true_and, and_true, true_implies, false_implies, implies_true, eq_self, not_true_eq_false, not_false_eq_true, Bool.false_eq_true, reduceCtorEq, forall_const, List.headD_cons, Nat.zero_add, true_or, or_true, ne_eq, false_and, and_false, false_or, or_false, Nat.reduceBEq, Bool.false_and, Bool.and_false, Bool.or_false, Bool.false_or, Bool.and_self, Bool.true_and, Bool.and_true, Bool.or_self, z10, z01, zm0, nz1, nz0, cnt0])
        simp only [nI_add]
        exact ih'
  exact loop 20 0 (by omega)
set_option maxHeartbeats 4000000 in
set_option maxRecDepth 100000 in
theorem c_T_isReadOn {d t a : Nat} {x : Int32} {F : Nat → Nat → Nat → Int32} {u : Mem} {Q : Option MV → Mem → Prop} (ht : t < 2) (ha : a < 20) (hF : FT u t 20 F) (h1 : rdN F a x 6 = true → Q (some (.inl (nI 1))) u) (h0 : rdN F a x 6 = false → Q (some (.inl (nI 0))) u) : OKm (d + 3) g_T_isReadOn [.inr (.inr (5, t)), .inl (nI a), .inl x] u Q := by
  refine en_T_isReadOn _ (Nat.le_of_ble_eq_true rfl) (rb_T_isReadOn_0 ?_)
  simp only [bk_T_isReadOn_0, gr_iconst, gr_istoren, st1, clr_0, clr_s, sk_0, sk_s, gr_iloadn, gr_bipush, gr_ificmp_ge, gr_aloadn, gr_invokevirtual, NI_5, ps_0, ps_s, pu_n, pu_s, ct_0, ct_i, ct_l, ct_r, gr_ificmp_ne, gr_ificmp_eq, gr_ireturn, gr_iinc, gr_goto, gr_nil, pI_c, pR_c, oI_c, oR_c, lg_i, lg_l, lg_r, lg_n, kI_p, kI_m, lk_0, lk_s, ar_n, ar_c, if_true, if_false, List.replicate, Nat.reduceAdd, Nat.reduceSub, Nat.reduceLeDiff, Nat.reduceEqDiff, Nat.reduceLT, reduceIte, true_and, and_true, true_implies, false_implies, implies_true, eq_self, not_true_eq_false, not_false_eq_true, Bool.false_eq_true, reduceCtorEq, forall_const, List.headD_cons, Nat.zero_add, true_or, or_true, ne_eq, false_and, and_false, false_or, or_false, Nat.reduceBEq, Bool.false_and, Bool.and_false, Bool.or_false, Bool.false_or, Bool.and_self, Bool.true_and, Bool.and_true, Bool.or_self, z10, z01, zm0, nz1, nz0, cnt0]
  have loop : ∀ (n i : Nat), i + n = 6 → rdN F a x i = false → RunB (d + 3) Y_T_isReadOn 1 [some (.inr (.inr (5, t))), some (.inl (nI a)), some (.inl x), some (.inl (nI i))] [] u Q := by
    intro n
    induction n with
    | zero =>
      intro i hi hb
      (refine rb_T_isReadOn_1 ?_; simp only [bk_T_isReadOn_1, gr_iconst, gr_istoren, st1, clr_0, clr_s, sk_0, sk_s, gr_iloadn, gr_bipush, gr_ificmp_ge, gr_aloadn, gr_invokevirtual, NI_5, ps_0, ps_s, pu_n, pu_s, ct_0, ct_i, ct_l, ct_r, gr_ificmp_ne, gr_ificmp_eq, gr_ireturn, gr_iinc, gr_goto, gr_nil, pI_c, pR_c, oI_c, oR_c, lg_i, lg_l, lg_r, lg_n, kI_p, kI_m, lk_0, lk_s, ar_n, ar_c, if_true, if_false, List.replicate, Nat.reduceAdd, Nat.reduceSub, Nat.reduceLeDiff, Nat.reduceEqDiff, Nat.reduceLT, reduceIte, true_and, and_true, true_implies, false_implies, implies_true, eq_self, not_true_eq_false, not_false_eq_true, Bool.false_eq_true, reduceCtorEq, forall_const, List.headD_cons, Nat.zero_add, true_or, or_true, ne_eq, false_and, and_false, false_or, or_false, Nat.reduceBEq, Bool.false_and, Bool.and_false, Bool.or_false, Bool.false_or, Bool.and_self, Bool.true_and, Bool.and_true, Bool.or_self, z10, z01, zm0, nz1, nz0, cnt0, ht])
      refine ⟨fun _ => ?_, fun h => absurd (nI_le (by omega) (by omega)) h⟩
      (refine rb_T_isReadOn_3 ?_; simp only [bk_T_isReadOn_3, gr_iconst, gr_istoren, st1, clr_0, clr_s, sk_0, sk_s, gr_iloadn, gr_bipush, gr_ificmp_ge, gr_aloadn, gr_invokevirtual, NI_5, ps_0, ps_s, pu_n, pu_s, ct_0, ct_i, ct_l, ct_r, gr_ificmp_ne, gr_ificmp_eq, gr_ireturn, gr_iinc, gr_goto, gr_nil, pI_c, pR_c, oI_c, oR_c, lg_i, lg_l, lg_r, lg_n, kI_p, kI_m, lk_0, lk_s, ar_n, ar_c, if_true, if_false, List.replicate, Nat.reduceAdd, Nat.reduceSub, Nat.reduceLeDiff, Nat.reduceEqDiff, Nat.reduceLT, reduceIte, true_and, and_true, true_implies, false_implies, implies_true, eq_self, not_true_eq_false, not_false_eq_true, Bool.false_eq_true, reduceCtorEq, forall_const, List.headD_cons, Nat.zero_add, true_or, or_true, ne_eq, false_and, and_false, false_or, or_false, Nat.reduceBEq, Bool.false_and, Bool.and_false, Bool.or_false, Bool.false_or, Bool.and_self, Bool.true_and, Bool.and_true, Bool.or_self, z10, z01, zm0, nz1, nz0, cnt0])
      rw [show i = 6 by omega] at hb
      exact h0 hb
    | succ n ih =>
      intro i hi hb
      have nxt : rdN F a x (i + 1) = false → RunB (d + 3) Y_T_isReadOn 2 [some (.inr (.inr (5, t))), some (.inl (nI a)), some (.inl x), some (.inl (nI i))] [] u Q := by
        intro hb'
        (refine rb_T_isReadOn_2 ?_; simp only [bk_T_isReadOn_2, gr_iconst, gr_istoren, st1, clr_0, clr_s, sk_0, sk_s, gr_iloadn, gr_bipush, gr_ificmp_ge, gr_aloadn, gr_invokevirtual, NI_5, ps_0, ps_s, pu_n, pu_s, ct_0, ct_i, ct_l, ct_r, gr_ificmp_ne, gr_ificmp_eq, gr_ireturn, gr_iinc, gr_goto, gr_nil, pI_c, pR_c, oI_c, oR_c, lg_i, lg_l, lg_r, lg_n, kI_p, kI_m, lk_0, lk_s, ar_n, ar_c, if_true, if_false, List.replicate, Nat.reduceAdd, Nat.reduceSub, Nat.reduceLeDiff, Nat.reduceEqDiff, Nat.reduceLT, reduceIte, true_and, and_true, true_implies, false_implies, implies_true, eq_self, not_true_eq_false, not_false_eq_true, Bool.false_eq_true, reduceCtorEq, forall_const, List.headD_cons, Nat.zero_add, true_or, or_true, ne_eq, false_and, and_false, false_or, or_false, Nat.reduceBEq, Bool.false_and, Bool.and_false, Bool.or_false, Bool.false_or, Bool.and_self, Bool.true_and, Bool.and_true, Bool.or_self, z10, z01, zm0, nz1, nz0, cnt0])
        rw [nI_add]
        exact ih (i + 1) (by omega) hb'
      (refine rb_T_isReadOn_1 ?_; simp only [bk_T_isReadOn_1, gr_iconst, gr_istoren, st1, clr_0, clr_s, sk_0, sk_s, gr_iloadn, gr_bipush, gr_ificmp_ge, gr_aloadn, gr_invokevirtual, NI_5, ps_0, ps_s, pu_n, pu_s, ct_0, ct_i, ct_l, ct_r, gr_ificmp_ne, gr_ificmp_eq, gr_ireturn, gr_iinc, gr_goto, gr_nil, pI_c, pR_c, oI_c, oR_c, lg_i, lg_l, lg_r, lg_n, kI_p, kI_m, lk_0, lk_s, ar_n, ar_c, if_true, if_false, List.replicate, Nat.reduceAdd, Nat.reduceSub, Nat.reduceLeDiff, Nat.reduceEqDiff, Nat.reduceLT, reduceIte, true_and, and_true, true_implies, false_implies, implies_true, eq_self, not_true_eq_false, not_false_eq_true, Bool.false_eq_true, reduceCtorEq, forall_const, List.headD_cons, Nat.zero_add, true_or, or_true, ne_eq, false_and, and_false, false_or, or_false, Nat.reduceBEq, Bool.false_and, Bool.and_false, Bool.or_false, Bool.false_or, Bool.and_self, Bool.true_and, Bool.and_true, Bool.or_self, z10, z01, zm0, nz1, nz0, cnt0, ht])
      refine ⟨fun h => absurd h (nI_ge (by omega) (by omega)), fun _ => ?_⟩
      refine c_T_fact ht ha (by omega) (by omega) ?_
      simp only [gr_iconst, gr_istoren, st1, clr_0, clr_s, sk_0, sk_s, gr_iloadn, gr_bipush, gr_ificmp_ge, gr_aloadn, gr_invokevirtual, NI_5, ps_0, ps_s, pu_n, pu_s, ct_0, ct_i, ct_l, ct_r, gr_ificmp_ne, gr_ificmp_eq, gr_ireturn, gr_iinc, gr_goto, gr_nil, pI_c, pR_c, oI_c, oR_c, lg_i, lg_l, lg_r, lg_n, kI_p, kI_m, lk_0, lk_s, ar_n, ar_c, if_true, if_false, List.replicate, Nat.reduceAdd, Nat.reduceSub, Nat.reduceLeDiff, Nat.reduceEqDiff, Nat.reduceLT, reduceIte, true_and, and_true, true_implies, false_implies, implies_true, eq_self, not_true_eq_false, not_false_eq_true, Bool.false_eq_true, reduceCtorEq, forall_const, List.headD_cons, Nat.zero_add, true_or, or_true, ne_eq, false_and, and_false, false_or, or_false, Nat.reduceBEq, Bool.false_and, Bool.and_false, Bool.or_false, Bool.false_or, Bool.and_self, Bool.true_and, Bool.and_true, Bool.or_self, z10, z01, zm0, nz1, nz0, cnt0, ht]
      rw [hF a ha i (by omega) 1 (by omega)]
      refine ⟨fun e1 => nxt (by simp [rdN, hb, e1]), fun e1 => ?_⟩
      refine c_T_fact ht ha (by omega) (by omega) ?_
      simp only [gr_iconst, gr_istoren, st1, clr_0, clr_s, sk_0, sk_s, gr_iloadn, gr_bipush, gr_ificmp_ge, gr_aloadn, gr_invokevirtual, NI_5, ps_0, ps_s, pu_n, pu_s, ct_0, ct_i, ct_l, ct_r, gr_ificmp_ne, gr_ificmp_eq, gr_ireturn, gr_iinc, gr_goto, gr_nil, pI_c, pR_c, oI_c, oR_c, lg_i, lg_l, lg_r, lg_n, kI_p, kI_m, lk_0, lk_s, ar_n, ar_c, if_true, if_false, List.replicate, Nat.reduceAdd, Nat.reduceSub, Nat.reduceLeDiff, Nat.reduceEqDiff, Nat.reduceLT, reduceIte, true_and, and_true, true_implies, false_implies, implies_true, eq_self, not_true_eq_false, not_false_eq_true, Bool.false_eq_true, reduceCtorEq, forall_const, List.headD_cons, Nat.zero_add, true_or, or_true, ne_eq, false_and, and_false, false_or, or_false, Nat.reduceBEq, Bool.false_and, Bool.and_false, Bool.or_false, Bool.false_or, Bool.and_self, Bool.true_and, Bool.and_true, Bool.or_self, z10, z01, zm0, nz1, nz0, cnt0, ht]
      rw [show rd u 22 t ((a * 6 + i) * 6) = F a i 0 from hF a ha i (by omega) 0 (by omega)]
      refine ⟨fun e2 => nxt (by simp [rdN, hb, e2]), fun e2 => h1 ?_⟩
      exact rdN_mono F a x 6 (i + 1) (by simp [rdN, e1, e2]) (by omega)
  exact loop 6 0 (by omega) rfl
set_option maxHeartbeats 4000000 in
set_option maxRecDepth 100000 in
theorem c_T_daysRead {d t : Nat} {x : Int32} {F : Nat → Nat → Nat → Int32} {u : Mem} {Q : Option MV → Mem → Prop} (ht : t < 2) (hF : FT u t 20 F) (hq : Q (some (.inl (nI (dR F x 20)))) u) : OKm (d + 4) g_T_daysRead [.inr (.inr (5, t)), .inl x] u Q := by
  refine en_T_daysRead _ (Nat.le_of_ble_eq_true rfl) (rb_T_daysRead_0 ?_)
  simp only [bk_T_daysRead_0, gr_iconst, gr_istoren, st1, clr_0, clr_s, sk_0, sk_s, gr_iloadn, gr_bipush, gr_ificmp_ge, gr_aloadn, gr_invokevirtual, NI_5, ps_0, ps_s, pu_n, pu_s, ct_0, ct_i, ct_l, ct_r, gr_ifCond_eq, gr_iinc, gr_goto, gr_ireturn, gr_nil, pI_c, pR_c, oI_c, oR_c, lg_i, lg_l, lg_r, lg_n, kI_p, kI_m, lk_0, lk_s, ar_n, ar_c, if_true, if_false, List.replicate, Nat.reduceAdd, Nat.reduceSub, Nat.reduceLeDiff, Nat.reduceEqDiff, Nat.reduceLT, reduceIte, true_and, and_true, true_implies, false_implies, implies_true, eq_self, not_true_eq_false, not_false_eq_true, Bool.false_eq_true, reduceCtorEq, forall_const, List.headD_cons, Nat.zero_add, true_or, or_true, ne_eq, false_and, and_false, false_or, or_false, Nat.reduceBEq, Bool.false_and, Bool.and_false, Bool.or_false, Bool.false_or, Bool.and_self, Bool.true_and, Bool.and_true, Bool.or_self, z10, z01, zm0, nz1, nz0, cnt0]
  have loop : ∀ (n i : Nat), i + n = 20 → RunB (d + 4) Y_T_daysRead 1 [some (.inr (.inr (5, t))), some (.inl x), some (.inl (nI (dR F x i))), some (.inl (nI i))] [] u Q := by
    intro n
    induction n with
    | zero =>
      intro i hi
      (refine rb_T_daysRead_1 ?_; simp only [bk_T_daysRead_1, gr_iconst, gr_istoren, st1, clr_0, clr_s, sk_0, sk_s, gr_iloadn, gr_bipush, gr_ificmp_ge, gr_aloadn, gr_invokevirtual, NI_5, ps_0, ps_s, pu_n, pu_s, ct_0, ct_i, ct_l, ct_r, gr_ifCond_eq, gr_iinc, gr_goto, gr_ireturn, gr_nil, pI_c, pR_c, oI_c, oR_c, lg_i, lg_l, lg_r, lg_n, kI_p, kI_m, lk_0, lk_s, ar_n, ar_c, if_true, if_false, List.replicate, Nat.reduceAdd, Nat.reduceSub, Nat.reduceLeDiff, Nat.reduceEqDiff, Nat.reduceLT, reduceIte, true_and, and_true, true_implies, false_implies, implies_true, eq_self, not_true_eq_false, not_false_eq_true, Bool.false_eq_true, reduceCtorEq, forall_const, List.headD_cons, Nat.zero_add, true_or, or_true, ne_eq, false_and, and_false, false_or, or_false, Nat.reduceBEq, Bool.false_and, Bool.and_false, Bool.or_false, Bool.false_or, Bool.and_self, Bool.true_and, Bool.and_true, Bool.or_self, z10, z01, zm0, nz1, nz0, cnt0, ht])
      refine ⟨fun _ => ?_, fun h => absurd (nI_le (by omega) (by omega)) h⟩
      (refine rb_T_daysRead_3 ?_; simp only [bk_T_daysRead_3, gr_iconst, gr_istoren, st1, clr_0, clr_s, sk_0, sk_s, gr_iloadn, gr_bipush, gr_ificmp_ge, gr_aloadn, gr_invokevirtual, NI_5, ps_0, ps_s, pu_n, pu_s, ct_0, ct_i, ct_l, ct_r, gr_ifCond_eq, gr_iinc, gr_goto, gr_ireturn, gr_nil, pI_c, pR_c, oI_c, oR_c, lg_i, lg_l, lg_r, lg_n, kI_p, kI_m, lk_0, lk_s, ar_n, ar_c, if_true, if_false, List.replicate, Nat.reduceAdd, Nat.reduceSub, Nat.reduceLeDiff, Nat.reduceEqDiff, Nat.reduceLT, reduceIte, true_and, and_true, true_implies, false_implies, implies_true, eq_self, not_true_eq_false, not_false_eq_true, Bool.false_eq_true, reduceCtorEq, forall_const, List.headD_cons, Nat.zero_add, true_or, or_true, ne_eq, false_and, and_false, false_or, or_false, Nat.reduceBEq, Bool.false_and, Bool.and_false, Bool.or_false, Bool.false_or, Bool.and_self, Bool.true_and, Bool.and_true, Bool.or_self, z10, z01, zm0, nz1, nz0, cnt0])
      rw [show i = 20 by omega]
      exact hq
    | succ n ih =>
      intro i hi
      have ih' := ih (i + 1) (by omega)
      simp only [dR] at ih'
      (refine rb_T_daysRead_1 ?_; simp only [bk_T_daysRead_1, gr_iconst, gr_istoren, st1, clr_0, clr_s, sk_0, sk_s, gr_iloadn, gr_bipush, gr_ificmp_ge, gr_aloadn, gr_invokevirtual, NI_5, ps_0, ps_s, pu_n, pu_s, ct_0, ct_i, ct_l, ct_r, gr_ifCond_eq, gr_iinc, gr_goto, gr_ireturn, gr_nil, pI_c, pR_c, oI_c, oR_c, lg_i, lg_l, lg_r, lg_n, kI_p, kI_m, lk_0, lk_s, ar_n, ar_c, if_true, if_false, List.replicate, Nat.reduceAdd, Nat.reduceSub, Nat.reduceLeDiff, Nat.reduceEqDiff, Nat.reduceLT, reduceIte, true_and, and_true, true_implies, false_implies, implies_true, eq_self, not_true_eq_false, not_false_eq_true, Bool.false_eq_true, reduceCtorEq, forall_const, List.headD_cons, Nat.zero_add, true_or, or_true, ne_eq, false_and, and_false, false_or, or_false, Nat.reduceBEq, Bool.false_and, Bool.and_false, Bool.or_false, Bool.false_or, Bool.and_self, Bool.true_and, Bool.and_true, Bool.or_self, z10, z01, zm0, nz1, nz0, cnt0, ht])
      refine ⟨fun h => absurd h (nI_ge (by omega) (by omega)), fun _ => ?_⟩
      refine c_T_isReadOn ht (by omega) hF (fun hb => ?_) (fun hb => ?_)
      · rw [if_pos hb] at ih'
        simp only [gr_iconst, gr_istoren, st1, clr_0, clr_s, sk_0, sk_s, gr_iloadn, gr_bipush, gr_ificmp_ge, gr_aloadn, gr_invokevirtual, NI_5, ps_0, ps_s, pu_n, pu_s, ct_0, ct_i, ct_l, ct_r, gr_ifCond_eq, gr_iinc, gr_goto, gr_ireturn, gr_nil, pI_c, pR_c, oI_c, oR_c, lg_i, lg_l, lg_r, lg_n, kI_p, kI_m, lk_0, lk_s, ar_n, ar_c, if_true, if_false, List.replicate, Nat.reduceAdd, Nat.reduceSub, Nat.reduceLeDiff, Nat.reduceEqDiff, Nat.reduceLT, reduceIte, true_and, and_true, true_implies, false_implies, implies_true, eq_self, not_true_eq_false, not_false_eq_true, Bool.false_eq_true, reduceCtorEq, forall_const, List.headD_cons, Nat.zero_add, true_or, or_true, ne_eq, false_and, and_false, false_or, or_false, Nat.reduceBEq, Bool.false_and, Bool.and_false, Bool.or_false, Bool.false_or, Bool.and_self, Bool.true_and, Bool.and_true, Bool.or_self, z10, z01, zm0, nz1, nz0, cnt0]
        (refine rb_T_daysRead_2 ?_; simp only [bk_T_daysRead_2, gr_iconst, gr_istoren, st1, clr_0, clr_s, sk_0, sk_s, gr_iloadn, gr_bipush, gr_ificmp_ge, gr_aloadn, gr_invokevirtual, NI_5, ps_0, ps_s, pu_n, pu_s, ct_0, ct_i, ct_l, ct_r, gr_ifCond_eq, gr_iinc, gr_goto, gr_ireturn, gr_nil, pI_c, pR_c, oI_c, oR_c, lg_i, lg_l, lg_r, lg_n, kI_p, kI_m, lk_0, lk_s, ar_n, ar_c, if_true, if_false, List.replicate, Nat.reduceAdd, Nat.reduceSub, Nat.reduceLeDiff, Nat.reduceEqDiff, Nat.reduceLT, reduceIte, true_and, and_true, true_implies, false_implies, implies_true, eq_self, not_true_eq_false, not_false_eq_true, Bool.false_eq_true, reduceCtorEq, forall_const, List.headD_cons, Nat.zero_add, true_or, or_true, ne_eq, false_and, and_false, false_or, or_false, Nat.reduceBEq, Bool.false_and, Bool.and_false, Bool.or_false, Bool.false_or, Bool.and_self, Bool.true_and, Bool.and_true, Bool.or_self, z10, z01, zm0, nz1, nz0, cnt0])
        simp only [nI_add]
        exact ih'
      · rw [if_neg (by simp [hb])] at ih'
        simp only [gr_iconst, gr_istoren, st1, clr_0, clr_s, sk_0, sk_s, gr_iloadn, gr_bipush, gr_ificmp_ge, gr_aloadn, gr_invokevirtual, NI_5, ps_0, ps_s, pu_n, pu_s, ct_0, ct_i, ct_l, ct_r, gr_ifCond_eq, gr_iinc, gr_goto, gr_ireturn, gr_nil, pI_c, pR_c, oI_c, oR_c, lg_i, lg_l, lg_r, lg_n, kI_p, kI_m, lk_0, lk_s, ar_n, ar_c, if_true, if_false, List.replicate, Nat.reduceAdd, Nat.reduceSub, Nat.reduceLeDiff, Nat.reduceEqDiff, Nat.reduceLT, reduceIte, true_and, and_true, true_implies, false_implies, implies_true, eq_self, not_true_eq_false, not_false_eq_true, Bool.false_eq_true, reduceCtorEq, forall_const, List.headD_cons, Nat.zero_add, true_or, or_true, ne_eq, false_and, and_false, false_or, or_false, Nat.reduceBEq, Bool.false_and, Bool.and_false, Bool.or_false, Bool.false_or, Bool.and_self, Bool.true_and, Bool.and_true, Bool.or_self, z10, z01, zm0, nz1, nz0, cnt0]
        (refine rb_T_daysRead_2 ?_; simp only [bk_T_daysRead_2, gr_iconst, gr_istoren, st1, clr_0, clr_s, sk_0, sk_s, gr_iloadn, gr_bipush, gr_ificmp_ge, gr_aloadn, gr_invokevirtual, NI_5, ps_0, ps_s, pu_n, pu_s, ct_0, ct_i, ct_l, ct_r, gr_ifCond_eq, gr_iinc, gr_goto, gr_ireturn, gr_nil, pI_c, pR_c, oI_c, oR_c, lg_i, lg_l, lg_r, lg_n, kI_p, kI_m, lk_0, lk_s, ar_n, ar_c, if_true, if_false, List.replicate, Nat.reduceAdd, Nat.reduceSub, Nat.reduceLeDiff, Nat.reduceEqDiff, Nat.reduceLT, reduceIte, true_and, and_true, true_implies, false_implies, implies_true, eq_self, not_true_eq_false, not_false_eq_true, Bool.false_eq_true, reduceCtorEq, forall_const, List.headD_cons, Nat.zero_add, true_or, or_true, ne_eq, false_and, and_false, false_or, or_false, Nat.reduceBEq, Bool.false_and, Bool.and_false, Bool.or_false, Bool.false_or, Bool.and_self, Bool.true_and, Bool.and_true, Bool.or_self, z10, z01, zm0, nz1, nz0, cnt0])
        simp only [nI_add]
        exact ih'
  exact loop 20 0 (by omega)
set_option maxHeartbeats 4000000 in
set_option maxRecDepth 100000 in
theorem c_T_unreadBills {d t n : Nat} {F : Nat → Nat → Nat → Int32} {u : Mem} {Q : Option MV → Mem → Prop} (ht : t < 2) (hn : rd u 2 0 5 = nI n) (hn8 : n ≤ 8) (hF : FT u t 20 F) (hq : Q (some (.inl (ubN F n))) u) : OKm (d + 5) g_T_unreadBills [.inr (.inr (5, t))] u Q := by
  refine en_T_unreadBills _ (Nat.le_of_ble_eq_true rfl) (rb_T_unreadBills_0 ?_)
  simp only [bk_T_unreadBills_0, gr_iconst, gr_istoren, st1, clr_0, clr_s, sk_0, sk_s, gr_iloadn, gr_aloadn, gr_getfield, fm_5_0, NI_5, fm_2_5, NI_2, gr_ificmp_ge, gr_invokevirtual, ps_0, ps_s, pu_n, pu_s, ct_0, ct_i, ct_l, ct_r, gr_ifCond_ne, gr_ishl, gr_ior, gr_iinc, gr_goto, gr_ireturn, gr_nil, pI_c, pR_c, oI_c, oR_c, lg_i, lg_l, lg_r, lg_n, kI_p, kI_m, lk_0, lk_s, ar_n, ar_c, if_true, if_false, List.replicate, Nat.reduceAdd, Nat.reduceSub, Nat.reduceLeDiff, Nat.reduceEqDiff, Nat.reduceLT, reduceIte, true_and, and_true, true_implies, false_implies, implies_true, eq_self, not_true_eq_false, not_false_eq_true, Bool.false_eq_true, reduceCtorEq, forall_const, List.headD_cons, Nat.zero_add, true_or, or_true, ne_eq, false_and, and_false, false_or, or_false, Nat.reduceBEq, Bool.false_and, Bool.and_false, Bool.or_false, Bool.false_or, Bool.and_self, Bool.true_and, Bool.and_true, Bool.or_self, z10, z01, zm0, nz1, nz0, cnt0]
  have loop : ∀ (m i : Nat), i + m = n → RunB (d + 5) Y_T_unreadBills 1 [some (.inr (.inr (5, t))), some (.inl (ubN F i)), some (.inl (nI i))] [] u Q := by
    intro m
    induction m with
    | zero =>
      intro i hi
      (refine rb_T_unreadBills_1 ?_; simp only [bk_T_unreadBills_1, gr_iconst, gr_istoren, st1, clr_0, clr_s, sk_0, sk_s, gr_iloadn, gr_aloadn, gr_getfield, fm_5_0, NI_5, fm_2_5, NI_2, gr_ificmp_ge, gr_invokevirtual, ps_0, ps_s, pu_n, pu_s, ct_0, ct_i, ct_l, ct_r, gr_ifCond_ne, gr_ishl, gr_ior, gr_iinc, gr_goto, gr_ireturn, gr_nil, pI_c, pR_c, oI_c, oR_c, lg_i, lg_l, lg_r, lg_n, kI_p, kI_m, lk_0, lk_s, ar_n, ar_c, if_true, if_false, List.replicate, Nat.reduceAdd, Nat.reduceSub, Nat.reduceLeDiff, Nat.reduceEqDiff, Nat.reduceLT, reduceIte, true_and, and_true, true_implies, false_implies, implies_true, eq_self, not_true_eq_false, not_false_eq_true, Bool.false_eq_true, reduceCtorEq, forall_const, List.headD_cons, Nat.zero_add, true_or, or_true, ne_eq, false_and, and_false, false_or, or_false, Nat.reduceBEq, Bool.false_and, Bool.and_false, Bool.or_false, Bool.false_or, Bool.and_self, Bool.true_and, Bool.and_true, Bool.or_self, z10, z01, zm0, nz1, nz0, cnt0, ht, hn])
      refine ⟨fun _ => ?_, fun h => absurd (nI_le (by omega) (by omega)) h⟩
      (refine rb_T_unreadBills_3 ?_; simp only [bk_T_unreadBills_3, gr_iconst, gr_istoren, st1, clr_0, clr_s, sk_0, sk_s, gr_iloadn, gr_aloadn, gr_getfield, fm_5_0, NI_5, fm_2_5, NI_2, gr_ificmp_ge, gr_invokevirtual, ps_0, ps_s, pu_n, pu_s, ct_0, ct_i, ct_l, ct_r, gr_ifCond_ne, gr_ishl, gr_ior, gr_iinc, gr_goto, gr_ireturn, gr_nil, pI_c, pR_c, oI_c, oR_c, lg_i, lg_l, lg_r, lg_n, kI_p, kI_m, lk_0, lk_s, ar_n, ar_c, if_true, if_false, List.replicate, Nat.reduceAdd, Nat.reduceSub, Nat.reduceLeDiff, Nat.reduceEqDiff, Nat.reduceLT, reduceIte, true_and, and_true, true_implies, false_implies, implies_true, eq_self, not_true_eq_false, not_false_eq_true, Bool.false_eq_true, reduceCtorEq, forall_const, List.headD_cons, Nat.zero_add, true_or, or_true, ne_eq, false_and, and_false, false_or, or_false, Nat.reduceBEq, Bool.false_and, Bool.and_false, Bool.or_false, Bool.false_or, Bool.and_self, Bool.true_and, Bool.and_true, Bool.or_self, z10, z01, zm0, nz1, nz0, cnt0])
      rw [show i = n by omega]
      exact hq
    | succ m ih =>
      intro i hi
      have ih' := ih (i + 1) (by omega)
      have hle := dR_le F (nI i) 20
      simp only [ubN] at ih'
      (refine rb_T_unreadBills_1 ?_; simp only [bk_T_unreadBills_1, gr_iconst, gr_istoren, st1, clr_0, clr_s, sk_0, sk_s, gr_iloadn, gr_aloadn, gr_getfield, fm_5_0, NI_5, fm_2_5, NI_2, gr_ificmp_ge, gr_invokevirtual, ps_0, ps_s, pu_n, pu_s, ct_0, ct_i, ct_l, ct_r, gr_ifCond_ne, gr_ishl, gr_ior, gr_iinc, gr_goto, gr_ireturn, gr_nil, pI_c, pR_c, oI_c, oR_c, lg_i, lg_l, lg_r, lg_n, kI_p, kI_m, lk_0, lk_s, ar_n, ar_c, if_true, if_false, List.replicate, Nat.reduceAdd, Nat.reduceSub, Nat.reduceLeDiff, Nat.reduceEqDiff, Nat.reduceLT, reduceIte, true_and, and_true, true_implies, false_implies, implies_true, eq_self, not_true_eq_false, not_false_eq_true, Bool.false_eq_true, reduceCtorEq, forall_const, List.headD_cons, Nat.zero_add, true_or, or_true, ne_eq, false_and, and_false, false_or, or_false, Nat.reduceBEq, Bool.false_and, Bool.and_false, Bool.or_false, Bool.false_or, Bool.and_self, Bool.true_and, Bool.and_true, Bool.or_self, z10, z01, zm0, nz1, nz0, cnt0, ht, hn])
      refine ⟨fun h => absurd h (nI_ge (by omega) (by omega)), fun _ => ?_⟩
      refine c_T_daysRead ht hF ?_
      simp only [gr_iconst, gr_istoren, st1, clr_0, clr_s, sk_0, sk_s, gr_iloadn, gr_aloadn, gr_getfield, fm_5_0, NI_5, fm_2_5, NI_2, gr_ificmp_ge, gr_invokevirtual, ps_0, ps_s, pu_n, pu_s, ct_0, ct_i, ct_l, ct_r, gr_ifCond_ne, gr_ishl, gr_ior, gr_iinc, gr_goto, gr_ireturn, gr_nil, pI_c, pR_c, oI_c, oR_c, lg_i, lg_l, lg_r, lg_n, kI_p, kI_m, lk_0, lk_s, ar_n, ar_c, if_true, if_false, List.replicate, Nat.reduceAdd, Nat.reduceSub, Nat.reduceLeDiff, Nat.reduceEqDiff, Nat.reduceLT, reduceIte, true_and, and_true, true_implies, false_implies, implies_true, eq_self, not_true_eq_false, not_false_eq_true, Bool.false_eq_true, reduceCtorEq, forall_const, List.headD_cons, Nat.zero_add, true_or, or_true, ne_eq, false_and, and_false, false_or, or_false, Nat.reduceBEq, Bool.false_and, Bool.and_false, Bool.or_false, Bool.false_or, Bool.and_self, Bool.true_and, Bool.and_true, Bool.or_self, z10, z01, zm0, nz1, nz0, cnt0]
      simp (disch := omega) only [nI_leI, nI_ltI, nI_eq, nI_add, pk_mul, nI_clamp, vp_nI, nI_lt0, nI_ge0, nI_eq0, nI_gt0, nI_le0, nI_neg1, neg1_nI, Nat.not_le, Nat.not_lt, if_true, if_false, true_and, and_true, true_implies, false_implies, implies_true, not_true_eq_false, not_false_eq_true, reduceIte, false_or, or_false, false_and, and_false, true_or, or_true]
      refine ⟨fun h => ?_, fun h => ?_⟩
      · rw [if_neg h] at ih'
        (refine rb_T_unreadBills_2 ?_; simp only [bk_T_unreadBills_2, gr_iconst, gr_istoren, st1, clr_0, clr_s, sk_0, sk_s, gr_iloadn, gr_aloadn, gr_getfield, fm_5_0, NI_5, fm_2_5, NI_2, gr_ificmp_ge, gr_invokevirtual, ps_0, ps_s, pu_n, pu_s, ct_0, ct_i, ct_l, ct_r, gr_ifCond_ne, gr_ishl, gr_ior, gr_iinc, gr_goto, gr_ireturn, gr_nil, pI_c, pR_c, oI_c, oR_c, lg_i, lg_l, lg_r, lg_n, kI_p, kI_m, lk_0, lk_s, ar_n, ar_c, if_true, if_false, List.replicate, Nat.reduceAdd, Nat.reduceSub, Nat.reduceLeDiff, Nat.reduceEqDiff, Nat.reduceLT, reduceIte, true_and, and_true, true_implies, false_implies, implies_true, eq_self, not_true_eq_false, not_false_eq_true, Bool.false_eq_true, reduceCtorEq, forall_const, List.headD_cons, Nat.zero_add, true_or, or_true, ne_eq, false_and, and_false, false_or, or_false, Nat.reduceBEq, Bool.false_and, Bool.and_false, Bool.or_false, Bool.false_or, Bool.and_self, Bool.true_and, Bool.and_true, Bool.or_self, z10, z01, zm0, nz1, nz0, cnt0])
        simp only [nI_add]
        exact ih'
      · rw [if_pos h] at ih'
        (refine rb_T_unreadBills_2 ?_; simp only [bk_T_unreadBills_2, gr_iconst, gr_istoren, st1, clr_0, clr_s, sk_0, sk_s, gr_iloadn, gr_aloadn, gr_getfield, fm_5_0, NI_5, fm_2_5, NI_2, gr_ificmp_ge, gr_invokevirtual, ps_0, ps_s, pu_n, pu_s, ct_0, ct_i, ct_l, ct_r, gr_ifCond_ne, gr_ishl, gr_ior, gr_iinc, gr_goto, gr_ireturn, gr_nil, pI_c, pR_c, oI_c, oR_c, lg_i, lg_l, lg_r, lg_n, kI_p, kI_m, lk_0, lk_s, ar_n, ar_c, if_true, if_false, List.replicate, Nat.reduceAdd, Nat.reduceSub, Nat.reduceLeDiff, Nat.reduceEqDiff, Nat.reduceLT, reduceIte, true_and, and_true, true_implies, false_implies, implies_true, eq_self, not_true_eq_false, not_false_eq_true, Bool.false_eq_true, reduceCtorEq, forall_const, List.headD_cons, Nat.zero_add, true_or, or_true, ne_eq, false_and, and_false, false_or, or_false, Nat.reduceBEq, Bool.false_and, Bool.and_false, Bool.or_false, Bool.false_or, Bool.and_self, Bool.true_and, Bool.and_true, Bool.or_self, z10, z01, zm0, nz1, nz0, cnt0])
        simp only [nI_add]
        exact ih'
  exact loop n 0 (by omega)
/-- what was seen: how many, days, columns, letters -/
def Sg4 (u : Mem) (z : Nat) (sd sc : Nat → Nat) (sl : Nat → Int32) : Prop := rd u 4 0 3 = nI z ∧ z ≤ 8 ∧ ∀ i, i < z → rd u 19 0 i = nI (sd i) ∧ rd u 20 0 i = nI (sc i) ∧ rd u 21 0 i = sl i ∧ sd i < 20 ∧ sc i < 6
theorem Sg4.keep {u v : Mem} {z : Nat} {sd sc : Nat → Nat} {sl : Nat → Int32} (h : Sg4 u z sd sc sl) (hv : ∀ c i j, (c = 4 ∨ c = 19 ∨ c = 20 ∨ c = 21) → rd v c i j = rd u c i j) : Sg4 v z sd sc sl := by
  refine ⟨by rw [hv _ _ _ (by simp)]; exact h.1, h.2.1, fun i hi => ?_⟩
  rw [hv 19 _ _ (by simp), hv 20 _ _ (by simp), hv 21 _ _ (by simp)]
  exact h.2.2 i hi
def fitN (sd sc : Nat → Nat) (sl : Nat → Int32) (F : Nat → Nat → Nat → Int32) : Nat → Bool
  | 0 => true
  | i + 1 => fitN sd sc sl F i && decide (F (sd i) (sc i) 0 = sl i)
theorem fitN_mono (sd sc : Nat → Nat) (sl : Nat → Int32) (F : Nat → Nat → Nat → Int32) : ∀ n k, fitN sd sc sl F k = false → k ≤ n → fitN sd sc sl F n = false := by
  intro n
  induction n with
  | zero => intro k h hk; rw [show k = 0 by omega] at h; exact h
  | succ n ih =>
    intro k h hk
    by_cases e : k = n + 1
    · rw [← e]; exact h
    · simp only [fitN, ih k h (by omega), Bool.false_and]
set_option maxHeartbeats 4000000 in
set_option maxRecDepth 100000 in
theorem c_S_fit {d t z : Nat} {sd sc : Nat → Nat} {sl : Nat → Int32} {F : Nat → Nat → Nat → Int32} {u : Mem} {Q : Option MV → Mem → Prop} (ht : t < 2) (hg : Sg4 u z sd sc sl) (hF : FT u t 20 F) (h1 : fitN sd sc sl F z = true → Q (some (.inl (nI 1))) u) (h0 : fitN sd sc sl F z = false → Q (some (.inl (nI 0))) u) : OKm (d + 3) g_S_fit [.inr (.inr (4, 0)), .inr (.inr (5, t))] u Q := by
  have h3 := hg.1
  have hz8 := hg.2.1
  refine en_S_fit _ (Nat.le_of_ble_eq_true rfl) (rb_S_fit_0 ?_)
  simp only [bk_S_fit_0, gr_iconst, gr_istoren, st1, clr_0, clr_s, sk_0, sk_s, gr_iloadn, gr_aloadn, gr_getfield, fm_4_3, NI_4, gr_ificmp_ge, gr_bipush, fm_4_0, gr_iaload, fm_4_1, gr_invokevirtual, NI_5, ps_0, ps_s, pu_n, pu_s, ct_0, ct_i, ct_l, ct_r, fm_4_2, gr_ificmp_eq, gr_ireturn, gr_iinc, gr_goto, NI_19, ia_19, ln_19, al_19, NI_20, ia_20, ln_20, al_20, NI_21, ia_21, ln_21, al_21, gr_nil, pI_c, pR_c, oI_c, oR_c, lg_i, lg_l, lg_r, lg_n, kI_p, kI_m, lk_0, lk_s, ar_n, ar_c, if_true, if_false, List.replicate, Nat.reduceAdd, Nat.reduceSub, Nat.reduceLeDiff, Nat.reduceEqDiff, Nat.reduceLT, reduceIte, true_and, and_true, true_implies, false_implies, implies_true, eq_self, not_true_eq_false, not_false_eq_true, Bool.false_eq_true, reduceCtorEq, forall_const, List.headD_cons, Nat.zero_add, true_or, or_true, ne_eq, false_and, and_false, false_or, or_false, Nat.reduceBEq, Bool.false_and, Bool.and_false, Bool.or_false, Bool.false_or, Bool.and_self, Bool.true_and, Bool.and_true, Bool.or_self, z10, z01, zm0, nz1, nz0, cnt0]
  have loop : ∀ (n i : Nat), i + n = z → fitN sd sc sl F i = true → RunB (d + 3) Y_S_fit 1 [some (.inr (.inr (4, 0))), some (.inr (.inr (5, t))), some (.inl (nI i))] [] u Q := by
    intro n
    induction n with
    | zero =>
      intro i hi hb
      (refine rb_S_fit_1 ?_; simp only [bk_S_fit_1, gr_iconst, gr_istoren, st1, clr_0, clr_s, sk_0, sk_s, gr_iloadn, gr_aloadn, gr_getfield, fm_4_3, NI_4, gr_ificmp_ge, gr_bipush, fm_4_0, gr_iaload, fm_4_1, gr_invokevirtual, NI_5, ps_0, ps_s, pu_n, pu_s, ct_0, ct_i, ct_l, ct_r, fm_4_2, gr_ificmp_eq, gr_ireturn, gr_iinc, gr_goto, NI_19, ia_19, ln_19, al_19, NI_20, ia_20, ln_20, al_20, NI_21, ia_21, ln_21, al_21, gr_nil, pI_c, pR_c, oI_c, oR_c, lg_i, lg_l, lg_r, lg_n, kI_p, kI_m, lk_0, lk_s, ar_n, ar_c, if_true, if_false, List.replicate, Nat.reduceAdd, Nat.reduceSub, Nat.reduceLeDiff, Nat.reduceEqDiff, Nat.reduceLT, reduceIte, true_and, and_true, true_implies, false_implies, implies_true, eq_self, not_true_eq_false, not_false_eq_true, Bool.false_eq_true, reduceCtorEq, forall_const, List.headD_cons, Nat.zero_add, true_or, or_true, ne_eq, false_and, and_false, false_or, or_false, Nat.reduceBEq, Bool.false_and, Bool.and_false, Bool.or_false, Bool.false_or, Bool.and_self, Bool.true_and, Bool.and_true, Bool.or_self, z10, z01, zm0, nz1, nz0, cnt0, ht, h3])
      refine ⟨fun _ => ?_, fun h => absurd (nI_le (by omega) (by omega)) h⟩
      (refine rb_S_fit_3 ?_; simp only [bk_S_fit_3, gr_iconst, gr_istoren, st1, clr_0, clr_s, sk_0, sk_s, gr_iloadn, gr_aloadn, gr_getfield, fm_4_3, NI_4, gr_ificmp_ge, gr_bipush, fm_4_0, gr_iaload, fm_4_1, gr_invokevirtual, NI_5, ps_0, ps_s, pu_n, pu_s, ct_0, ct_i, ct_l, ct_r, fm_4_2, gr_ificmp_eq, gr_ireturn, gr_iinc, gr_goto, NI_19, ia_19, ln_19, al_19, NI_20, ia_20, ln_20, al_20, NI_21, ia_21, ln_21, al_21, gr_nil, pI_c, pR_c, oI_c, oR_c, lg_i, lg_l, lg_r, lg_n, kI_p, kI_m, lk_0, lk_s, ar_n, ar_c, if_true, if_false, List.replicate, Nat.reduceAdd, Nat.reduceSub, Nat.reduceLeDiff, Nat.reduceEqDiff, Nat.reduceLT, reduceIte, true_and, and_true, true_implies, false_implies, implies_true, eq_self, not_true_eq_false, not_false_eq_true, Bool.false_eq_true, reduceCtorEq, forall_const, List.headD_cons, Nat.zero_add, true_or, or_true, ne_eq, false_and, and_false, false_or, or_false, Nat.reduceBEq, Bool.false_and, Bool.and_false, Bool.or_false, Bool.false_or, Bool.and_self, Bool.true_and, Bool.and_true, Bool.or_self, z10, z01, zm0, nz1, nz0, cnt0])
      rw [show i = z by omega] at hb
      exact h1 hb
    | succ n ih =>
      intro i hi hb
      obtain ⟨q1, q2, q3, q4, q5⟩ := hg.2.2 i (by omega)
      have nxt : fitN sd sc sl F (i + 1) = true → RunB (d + 3) Y_S_fit 2 [some (.inr (.inr (4, 0))), some (.inr (.inr (5, t))), some (.inl (nI i))] [] u Q := by
        intro hb'
        (refine rb_S_fit_2 ?_; simp only [bk_S_fit_2, gr_iconst, gr_istoren, st1, clr_0, clr_s, sk_0, sk_s, gr_iloadn, gr_aloadn, gr_getfield, fm_4_3, NI_4, gr_ificmp_ge, gr_bipush, fm_4_0, gr_iaload, fm_4_1, gr_invokevirtual, NI_5, ps_0, ps_s, pu_n, pu_s, ct_0, ct_i, ct_l, ct_r, fm_4_2, gr_ificmp_eq, gr_ireturn, gr_iinc, gr_goto, NI_19, ia_19, ln_19, al_19, NI_20, ia_20, ln_20, al_20, NI_21, ia_21, ln_21, al_21, gr_nil, pI_c, pR_c, oI_c, oR_c, lg_i, lg_l, lg_r, lg_n, kI_p, kI_m, lk_0, lk_s, ar_n, ar_c, if_true, if_false, List.replicate, Nat.reduceAdd, Nat.reduceSub, Nat.reduceLeDiff, Nat.reduceEqDiff, Nat.reduceLT, reduceIte, true_and, and_true, true_implies, false_implies, implies_true, eq_self, not_true_eq_false, not_false_eq_true, Bool.false_eq_true, reduceCtorEq, forall_const, List.headD_cons, Nat.zero_add, true_or, or_true, ne_eq, false_and, and_false, false_or, or_false, Nat.reduceBEq, Bool.false_and, Bool.and_false, Bool.or_false, Bool.false_or, Bool.and_self, Bool.true_and, Bool.and_true, Bool.or_self, z10, z01, zm0, nz1, nz0, cnt0])
        rw [nI_add]
        exact ih (i + 1) (by omega) hb'
      (refine rb_S_fit_1 ?_; simp only [bk_S_fit_1, gr_iconst, gr_istoren, st1, clr_0, clr_s, sk_0, sk_s, gr_iloadn, gr_aloadn, gr_getfield, fm_4_3, NI_4, gr_ificmp_ge, gr_bipush, fm_4_0, gr_iaload, fm_4_1, gr_invokevirtual, NI_5, ps_0, ps_s, pu_n, pu_s, ct_0, ct_i, ct_l, ct_r, fm_4_2, gr_ificmp_eq, gr_ireturn, gr_iinc, gr_goto, NI_19, ia_19, ln_19, al_19, NI_20, ia_20, ln_20, al_20, NI_21, ia_21, ln_21, al_21, gr_nil, pI_c, pR_c, oI_c, oR_c, lg_i, lg_l, lg_r, lg_n, kI_p, kI_m, lk_0, lk_s, ar_n, ar_c, if_true, if_false, List.replicate, Nat.reduceAdd, Nat.reduceSub, Nat.reduceLeDiff, Nat.reduceEqDiff, Nat.reduceLT, reduceIte, true_and, and_true, true_implies, false_implies, implies_true, eq_self, not_true_eq_false, not_false_eq_true, Bool.false_eq_true, reduceCtorEq, forall_const, List.headD_cons, Nat.zero_add, true_or, or_true, ne_eq, false_and, and_false, false_or, or_false, Nat.reduceBEq, Bool.false_and, Bool.and_false, Bool.or_false, Bool.false_or, Bool.and_self, Bool.true_and, Bool.and_true, Bool.or_self, z10, z01, zm0, nz1, nz0, cnt0, ht, h3])
      simp (disch := omega) only [nI_leI, nI_ltI, nI_eq, nI_add, pk_mul, nI_clamp, vp_nI, nI_lt0, nI_ge0, nI_eq0, nI_gt0, nI_le0, nI_neg1, neg1_nI, Nat.not_le, Nat.not_lt, if_true, if_false, true_and, and_true, true_implies, false_implies, implies_true, not_true_eq_false, not_false_eq_true, reduceIte, false_or, or_false, false_and, and_false, true_or, or_true, q1, q2, q3]
      (repeat' first | with_reducible intro _ | with_reducible apply And.intro) <;> try omega
      refine c_T_fact ht q4 q5 (by omega) ?_
      simp only [gr_iconst, gr_istoren, st1, clr_0, clr_s, sk_0, sk_s, gr_iloadn, gr_aloadn, gr_getfield, fm_4_3, NI_4, gr_ificmp_ge, gr_bipush, fm_4_0, gr_iaload, fm_4_1, gr_invokevirtual, NI_5, ps_0, ps_s, pu_n, pu_s, ct_0, ct_i, ct_l, ct_r, fm_4_2, gr_ificmp_eq, gr_ireturn, gr_iinc, gr_goto, NI_19, ia_19, ln_19, al_19, NI_20, ia_20, ln_20, al_20, NI_21, ia_21, ln_21, al_21, gr_nil, pI_c, pR_c, oI_c, oR_c, lg_i, lg_l, lg_r, lg_n, kI_p, kI_m, lk_0, lk_s, ar_n, ar_c, if_true, if_false, List.replicate, Nat.reduceAdd, Nat.reduceSub, Nat.reduceLeDiff, Nat.reduceEqDiff, Nat.reduceLT, reduceIte, true_and, and_true, true_implies, false_implies, implies_true, eq_self, not_true_eq_false, not_false_eq_true, Bool.false_eq_true, reduceCtorEq, forall_const, List.headD_cons, Nat.zero_add, true_or, or_true, ne_eq, false_and, and_false, false_or, or_false, Nat.reduceBEq, Bool.false_and, Bool.and_false, Bool.or_false, Bool.false_or, Bool.and_self, Bool.true_and, Bool.and_true, Bool.or_self, z10, z01, zm0, nz1, nz0, cnt0]
      simp (disch := omega) only [nI_leI, nI_ltI, nI_eq, nI_add, pk_mul, nI_clamp, vp_nI, nI_lt0, nI_ge0, nI_eq0, nI_gt0, nI_le0, nI_neg1, neg1_nI, Nat.not_le, Nat.not_lt, if_true, if_false, true_and, and_true, true_implies, false_implies, implies_true, not_true_eq_false, not_false_eq_true, reduceIte, false_or, or_false, false_and, and_false, true_or, or_true, q3]
      rw [show rd u 22 t ((sd i * 6 + sc i) * 6) = F (sd i) (sc i) 0 from hF _ q4 _ q5 0 (by omega)]
      (repeat' first | with_reducible intro _ | with_reducible apply And.intro) <;> try omega
      · exact nxt (by simp [fitN, hb, *])
      · refine h0 (fitN_mono sd sc sl F z (i + 1) ?_ (by omega))
        simp [fitN, hb, *]
  exact loop z 0 (by omega) rfl
end
