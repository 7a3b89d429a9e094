section
-- ===== PART A: goes FIRST, ahead of the names: the tables' words, and 'selects' of the private methods out of them =====
/-- a private method of a class that the tables say can be made, by its rows of tables_1 -/
def lw_okq (q : MethodName × Nat) : Prop := (q.1.cls ≠ "java/lang/invoke/MethodHandle" ∧ q.1.cls ≠ "java/lang/invoke/VarHandle") ∧ Cond.instantiable q.1.cls q.2 ∈ tables_1 ∧ Cond.privateMethod q.1 ∈ tables_1 ∧ Cond.instanceMethod q.1 ∈ tables_1
theorem lw_p0 : lw_okq (⟨"VanPlays", "isHallBuild", "(II)Z"⟩, 8) := ⟨⟨by decide +kernel, by decide +kernel⟩, List.mem_of_getElem? (i := 24) (by decide +kernel), List.mem_of_getElem? (i := 361) (by decide +kernel), List.mem_of_getElem? (i := 362) (by decide +kernel)⟩
theorem lw_p1 : lw_okq (⟨"VanPlays", "isHall", "(I)Z"⟩, 8) := ⟨⟨by decide +kernel, by decide +kernel⟩, List.mem_of_getElem? (i := 24) (by decide +kernel), List.mem_of_getElem? (i := 407) (by decide +kernel), List.mem_of_getElem? (i := 408) (by decide +kernel)⟩
theorem lw_p2 : lw_okq (⟨"VanPlays", "isShow", "(I)Z"⟩, 8) := ⟨⟨by decide +kernel, by decide +kernel⟩, List.mem_of_getElem? (i := 24) (by decide +kernel), List.mem_of_getElem? (i := 415) (by decide +kernel), List.mem_of_getElem? (i := 416) (by decide +kernel)⟩
theorem lw_p3 : lw_okq (⟨"VanPlays", "fitOf", "(LVanPlays$Show;LVanPlays$Hall;)I"⟩, 8) := ⟨⟨by decide +kernel, by decide +kernel⟩, List.mem_of_getElem? (i := 24) (by decide +kernel), List.mem_of_getElem? (i := 427) (by decide +kernel), List.mem_of_getElem? (i := 428) (by decide +kernel)⟩
theorem lw_p4 : lw_okq (⟨"VanPlays$Plugging", "lay", "(LVanPlays$Amps;LVanPlays$Amps;)V"⟩, 9) := ⟨⟨by decide +kernel, by decide +kernel⟩, List.mem_of_getElem? (i := 53) (by decide +kernel), List.mem_of_getElem? (i := 435) (by decide +kernel), List.mem_of_getElem? (i := 436) (by decide +kernel)⟩
theorem lw_p5 : lw_okq (⟨"VanPlays$Plugging", "search", "(II)V"⟩, 9) := ⟨⟨by decide +kernel, by decide +kernel⟩, List.mem_of_getElem? (i := 53) (by decide +kernel), List.mem_of_getElem? (i := 441) (by decide +kernel), List.mem_of_getElem? (i := 442) (by decide +kernel)⟩
theorem lw_p6 : lw_okq (⟨"VanPlays$Plugging", "keep", "(I)V"⟩, 9) := ⟨⟨by decide +kernel, by decide +kernel⟩, List.mem_of_getElem? (i := 53) (by decide +kernel), List.mem_of_getElem? (i := 445) (by decide +kernel), List.mem_of_getElem? (i := 446) (by decide +kernel)⟩
theorem lw_p7 : lw_okq (⟨"VanPlays$Plugging", "lackAtLeast", "(I)I"⟩, 9) := ⟨⟨by decide +kernel, by decide +kernel⟩, List.mem_of_getElem? (i := 53) (by decide +kernel), List.mem_of_getElem? (i := 452) (by decide +kernel), List.mem_of_getElem? (i := 453) (by decide +kernel)⟩
theorem lw_p8 : lw_okq (⟨"VanPlays$Plugging", "isLikeOneAhead", "(I)Z"⟩, 9) := ⟨⟨by decide +kernel, by decide +kernel⟩, List.mem_of_getElem? (i := 53) (by decide +kernel), List.mem_of_getElem? (i := 456) (by decide +kernel), List.mem_of_getElem? (i := 457) (by decide +kernel)⟩
theorem lw_p9 : lw_okq (⟨"VanPlays", "closeTakenNights", "(I)V"⟩, 8) := ⟨⟨by decide +kernel, by decide +kernel⟩, List.mem_of_getElem? (i := 24) (by decide +kernel), List.mem_of_getElem? (i := 505) (by decide +kernel), List.mem_of_getElem? (i := 506) (by decide +kernel)⟩
theorem lw_p10 : lw_okq (⟨"VanPlays", "showAt", "(II)I"⟩, 8) := ⟨⟨by decide +kernel, by decide +kernel⟩, List.mem_of_getElem? (i := 24) (by decide +kernel), List.mem_of_getElem? (i := 509) (by decide +kernel), List.mem_of_getElem? (i := 510) (by decide +kernel)⟩
theorem lw_p11 : lw_okq (⟨"VanPlays$Planner", "weigh", "(III)V"⟩, 11) := ⟨⟨by decide +kernel, by decide +kernel⟩, List.mem_of_getElem? (i := 87) (by decide +kernel), List.mem_of_getElem? (i := 524) (by decide +kernel), List.mem_of_getElem? (i := 525) (by decide +kernel)⟩
theorem lw_p12 : lw_okq (⟨"VanPlays$Planner", "gainRested", "(III)I"⟩, 11) := ⟨⟨by decide +kernel, by decide +kernel⟩, List.mem_of_getElem? (i := 87) (by decide +kernel), List.mem_of_getElem? (i := 528) (by decide +kernel), List.mem_of_getElem? (i := 529) (by decide +kernel)⟩
theorem lw_p13 : lw_okq (⟨"VanPlays$Planner", "gainNextNight", "(IIII)I"⟩, 11) := ⟨⟨by decide +kernel, by decide +kernel⟩, List.mem_of_getElem? (i := 87) (by decide +kernel), List.mem_of_getElem? (i := 541) (by decide +kernel), List.mem_of_getElem? (i := 542) (by decide +kernel)⟩
theorem lw_p14 : lw_okq (⟨"VanPlays$Planner", "walk", "(LVanPlays$Show;)V"⟩, 11) := ⟨⟨by decide +kernel, by decide +kernel⟩, List.mem_of_getElem? (i := 87) (by decide +kernel), List.mem_of_getElem? (i := 548) (by decide +kernel), List.mem_of_getElem? (i := 549) (by decide +kernel)⟩
theorem lw_p15 : lw_okq (⟨"VanPlays$Planner", "mostPoints", "()I"⟩, 11) := ⟨⟨by decide +kernel, by decide +kernel⟩, List.mem_of_getElem? (i := 87) (by decide +kernel), List.mem_of_getElem? (i := 552) (by decide +kernel), List.mem_of_getElem? (i := 553) (by decide +kernel)⟩
def lw_privs_1 : List (MethodName × Nat) := [(⟨"VanPlays", "isHallBuild", "(II)Z"⟩, 8), (⟨"VanPlays", "isHall", "(I)Z"⟩, 8), (⟨"VanPlays", "isShow", "(I)Z"⟩, 8), (⟨"VanPlays", "fitOf", "(LVanPlays$Show;LVanPlays$Hall;)I"⟩, 8), (⟨"VanPlays$Plugging", "lay", "(LVanPlays$Amps;LVanPlays$Amps;)V"⟩, 9), (⟨"VanPlays$Plugging", "search", "(II)V"⟩, 9), (⟨"VanPlays$Plugging", "keep", "(I)V"⟩, 9), (⟨"VanPlays$Plugging", "lackAtLeast", "(I)I"⟩, 9), (⟨"VanPlays$Plugging", "isLikeOneAhead", "(I)Z"⟩, 9), (⟨"VanPlays", "closeTakenNights", "(I)V"⟩, 8), (⟨"VanPlays", "showAt", "(II)I"⟩, 8), (⟨"VanPlays$Planner", "weigh", "(III)V"⟩, 11), (⟨"VanPlays$Planner", "gainRested", "(III)I"⟩, 11), (⟨"VanPlays$Planner", "gainNextNight", "(IIII)I"⟩, 11), (⟨"VanPlays$Planner", "walk", "(LVanPlays$Show;)V"⟩, 11), (⟨"VanPlays$Planner", "mostPoints", "()I"⟩, 11)]
theorem lw_r1 : ∀ q ∈ lw_privs_1, lw_okq q := List.forall_mem_cons.mpr ⟨lw_p0, List.forall_mem_cons.mpr ⟨lw_p1, List.forall_mem_cons.mpr ⟨lw_p2, List.forall_mem_cons.mpr ⟨lw_p3, List.forall_mem_cons.mpr ⟨lw_p4, List.forall_mem_cons.mpr ⟨lw_p5, List.forall_mem_cons.mpr ⟨lw_p6, List.forall_mem_cons.mpr ⟨lw_p7, List.forall_mem_cons.mpr ⟨lw_p8, List.forall_mem_cons.mpr ⟨lw_p9, List.forall_mem_cons.mpr ⟨lw_p10, List.forall_mem_cons.mpr ⟨lw_p11, List.forall_mem_cons.mpr ⟨lw_p12, List.forall_mem_cons.mpr ⟨lw_p13, List.forall_mem_cons.mpr ⟨lw_p14, List.forall_mem_cons.mpr ⟨lw_p15, fun _ h => absurd h List.not_mem_nil⟩⟩⟩⟩⟩⟩⟩⟩⟩⟩⟩⟩⟩⟩⟩⟩
theorem lw_p16 : lw_okq (⟨"VanPlays$Planner", "firstBringing", "(IIIIII)I"⟩, 11) := ⟨⟨by decide +kernel, by decide +kernel⟩, List.mem_of_getElem? (i := 87) (by decide +kernel), List.mem_of_getElem? (i := 556) (by decide +kernel), List.mem_of_getElem? (i := 557) (by decide +kernel)⟩
theorem lw_p17 : lw_okq (⟨"VanPlays", "worthOfTour", "(I)I"⟩, 8) := ⟨⟨by decide +kernel, by decide +kernel⟩, List.mem_of_getElem? (i := 24) (by decide +kernel), List.mem_of_getElem? (i := 560) (by decide +kernel), List.mem_of_getElem? (i := 561) (by decide +kernel)⟩
theorem lw_p18 : lw_okq (⟨"VanPlays", "canMove", "(LVanPlays$Show;II)Z"⟩, 8) := ⟨⟨by decide +kernel, by decide +kernel⟩, List.mem_of_getElem? (i := 24) (by decide +kernel), List.mem_of_getElem? (i := 572) (by decide +kernel), List.mem_of_getElem? (i := 573) (by decide +kernel)⟩
theorem lw_p19 : lw_okq (⟨"VanPlays", "keepsWaysAndRests", "(LVanPlays$Show;)Z"⟩, 8) := ⟨⟨by decide +kernel, by decide +kernel⟩, List.mem_of_getElem? (i := 24) (by decide +kernel), List.mem_of_getElem? (i := 576) (by decide +kernel), List.mem_of_getElem? (i := 577) (by decide +kernel)⟩
theorem lw_p20 : lw_okq (⟨"VanPlays$TermsReader", "start", "(LVanPlays$Tape;)V"⟩, 12) := ⟨⟨by decide +kernel, by decide +kernel⟩, List.mem_of_getElem? (i := 127) (by decide +kernel), List.mem_of_getElem? (i := 593) (by decide +kernel), List.mem_of_getElem? (i := 594) (by decide +kernel)⟩
theorem lw_p21 : lw_okq (⟨"VanPlays$TermsReader", "nextToken", "()V"⟩, 12) := ⟨⟨by decide +kernel, by decide +kernel⟩, List.mem_of_getElem? (i := 127) (by decide +kernel), List.mem_of_getElem? (i := 606) (by decide +kernel), List.mem_of_getElem? (i := 607) (by decide +kernel)⟩
theorem lw_p22 : lw_okq (⟨"VanPlays$TermsReader", "readRun", "()V"⟩, 12) := ⟨⟨by decide +kernel, by decide +kernel⟩, List.mem_of_getElem? (i := 127) (by decide +kernel), List.mem_of_getElem? (i := 620) (by decide +kernel), List.mem_of_getElem? (i := 621) (by decide +kernel)⟩
theorem lw_p23 : lw_okq (⟨"VanPlays$TermsReader", "readTerm", "()Z"⟩, 12) := ⟨⟨by decide +kernel, by decide +kernel⟩, List.mem_of_getElem? (i := 127) (by decide +kernel), List.mem_of_getElem? (i := 624) (by decide +kernel), List.mem_of_getElem? (i := 625) (by decide +kernel)⟩
theorem lw_p24 : lw_okq (⟨"VanPlays$TermsReader", "isWord", "(Ljava/lang/String;)Z"⟩, 12) := ⟨⟨by decide +kernel, by decide +kernel⟩, List.mem_of_getElem? (i := 127) (by decide +kernel), List.mem_of_getElem? (i := 629) (by decide +kernel), List.mem_of_getElem? (i := 630) (by decide +kernel)⟩
theorem lw_p25 : lw_okq (⟨"VanPlays$TermsReader", "readFee", "()Z"⟩, 12) := ⟨⟨by decide +kernel, by decide +kernel⟩, List.mem_of_getElem? (i := 127) (by decide +kernel), List.mem_of_getElem? (i := 681) (by decide +kernel), List.mem_of_getElem? (i := 682) (by decide +kernel)⟩
theorem lw_p26 : lw_okq (⟨"VanPlays$TermsReader", "refuse", "(I)Z"⟩, 12) := ⟨⟨by decide +kernel, by decide +kernel⟩, List.mem_of_getElem? (i := 127) (by decide +kernel), List.mem_of_getElem? (i := 685) (by decide +kernel), List.mem_of_getElem? (i := 686) (by decide +kernel)⟩
theorem lw_p27 : lw_okq (⟨"VanPlays$TermsReader", "readNumber", "(II)Z"⟩, 12) := ⟨⟨by decide +kernel, by decide +kernel⟩, List.mem_of_getElem? (i := 127) (by decide +kernel), List.mem_of_getElem? (i := 690) (by decide +kernel), List.mem_of_getElem? (i := 691) (by decide +kernel)⟩
theorem lw_p28 : lw_okq (⟨"VanPlays$TermsReader", "refuseToken", "()Z"⟩, 12) := ⟨⟨by decide +kernel, by decide +kernel⟩, List.mem_of_getElem? (i := 127) (by decide +kernel), List.mem_of_getElem? (i := 694) (by decide +kernel), List.mem_of_getElem? (i := 695) (by decide +kernel)⟩
theorem lw_p29 : lw_okq (⟨"VanPlays$TermsReader", "readStop", "()Z"⟩, 12) := ⟨⟨by decide +kernel, by decide +kernel⟩, List.mem_of_getElem? (i := 127) (by decide +kernel), List.mem_of_getElem? (i := 699) (by decide +kernel), List.mem_of_getElem? (i := 700) (by decide +kernel)⟩
theorem lw_p30 : lw_okq (⟨"VanPlays$TermsReader", "readShare", "()Z"⟩, 12) := ⟨⟨by decide +kernel, by decide +kernel⟩, List.mem_of_getElem? (i := 127) (by decide +kernel), List.mem_of_getElem? (i := 704) (by decide +kernel), List.mem_of_getElem? (i := 705) (by decide +kernel)⟩
theorem lw_p31 : lw_okq (⟨"VanPlays$TermsReader", "readWord", "(Ljava/lang/String;)Z"⟩, 12) := ⟨⟨by decide +kernel, by decide +kernel⟩, List.mem_of_getElem? (i := 127) (by decide +kernel), List.mem_of_getElem? (i := 709) (by decide +kernel), List.mem_of_getElem? (i := 710) (by decide +kernel)⟩
def lw_privs_2 : List (MethodName × Nat) := [(⟨"VanPlays$Planner", "firstBringing", "(IIIIII)I"⟩, 11), (⟨"VanPlays", "worthOfTour", "(I)I"⟩, 8), (⟨"VanPlays", "canMove", "(LVanPlays$Show;II)Z"⟩, 8), (⟨"VanPlays", "keepsWaysAndRests", "(LVanPlays$Show;)Z"⟩, 8), (⟨"VanPlays$TermsReader", "start", "(LVanPlays$Tape;)V"⟩, 12), (⟨"VanPlays$TermsReader", "nextToken", "()V"⟩, 12), (⟨"VanPlays$TermsReader", "readRun", "()V"⟩, 12), (⟨"VanPlays$TermsReader", "readTerm", "()Z"⟩, 12), (⟨"VanPlays$TermsReader", "isWord", "(Ljava/lang/String;)Z"⟩, 12), (⟨"VanPlays$TermsReader", "readFee", "()Z"⟩, 12), (⟨"VanPlays$TermsReader", "refuse", "(I)Z"⟩, 12), (⟨"VanPlays$TermsReader", "readNumber", "(II)Z"⟩, 12), (⟨"VanPlays$TermsReader", "refuseToken", "()Z"⟩, 12), (⟨"VanPlays$TermsReader", "readStop", "()Z"⟩, 12), (⟨"VanPlays$TermsReader", "readShare", "()Z"⟩, 12), (⟨"VanPlays$TermsReader", "readWord", "(Ljava/lang/String;)Z"⟩, 12)]
theorem lw_r2 : ∀ q ∈ lw_privs_2, lw_okq q := List.forall_mem_cons.mpr ⟨lw_p16, List.forall_mem_cons.mpr ⟨lw_p17, List.forall_mem_cons.mpr ⟨lw_p18, List.forall_mem_cons.mpr ⟨lw_p19, List.forall_mem_cons.mpr ⟨lw_p20, List.forall_mem_cons.mpr ⟨lw_p21, List.forall_mem_cons.mpr ⟨lw_p22, List.forall_mem_cons.mpr ⟨lw_p23, List.forall_mem_cons.mpr ⟨lw_p24, List.forall_mem_cons.mpr ⟨lw_p25, List.forall_mem_cons.mpr ⟨lw_p26, List.forall_mem_cons.mpr ⟨lw_p27, List.forall_mem_cons.mpr ⟨lw_p28, List.forall_mem_cons.mpr ⟨lw_p29, List.forall_mem_cons.mpr ⟨lw_p30, List.forall_mem_cons.mpr ⟨lw_p31, fun _ h => absurd h List.not_mem_nil⟩⟩⟩⟩⟩⟩⟩⟩⟩⟩⟩⟩⟩⟩⟩⟩
theorem lw_p32 : lw_okq (⟨"VanPlays$TermsReader", "readSubsidy", "()Z"⟩, 12) := ⟨⟨by decide +kernel, by decide +kernel⟩, List.mem_of_getElem? (i := 127) (by decide +kernel), List.mem_of_getElem? (i := 714) (by decide +kernel), List.mem_of_getElem? (i := 715) (by decide +kernel)⟩
theorem lw_p33 : lw_okq (⟨"VanPlays$TermsReader", "readLoss", "()Z"⟩, 12) := ⟨⟨by decide +kernel, by decide +kernel⟩, List.mem_of_getElem? (i := 127) (by decide +kernel), List.mem_of_getElem? (i := 720) (by decide +kernel), List.mem_of_getElem? (i := 721) (by decide +kernel)⟩
theorem lw_p34 : lw_okq (⟨"VanPlays$Terms", "keptBeforeLoss", "(I)I"⟩, 7) := ⟨⟨by decide +kernel, by decide +kernel⟩, List.mem_of_getElem? (i := 133) (by decide +kernel), List.mem_of_getElem? (i := 763) (by decide +kernel), List.mem_of_getElem? (i := 764) (by decide +kernel)⟩
theorem lw_p35 : lw_okq (⟨"VanPlays$Terms", "subsidyOfFee", "()I"⟩, 7) := ⟨⟨by decide +kernel, by decide +kernel⟩, List.mem_of_getElem? (i := 133) (by decide +kernel), List.mem_of_getElem? (i := 767) (by decide +kernel), List.mem_of_getElem? (i := 768) (by decide +kernel)⟩
theorem lw_p36 : lw_okq (⟨"VanPlays", "nightsOnTours", "()I"⟩, 8) := ⟨⟨by decide +kernel, by decide +kernel⟩, List.mem_of_getElem? (i := 24) (by decide +kernel), List.mem_of_getElem? (i := 777) (by decide +kernel), List.mem_of_getElem? (i := 778) (by decide +kernel)⟩
theorem lw_p37 : lw_okq (⟨"java/lang/Throwable", "fillInStackTrace", "(I)Ljava/lang/Throwable;"⟩, 6) := ⟨⟨by decide +kernel, by decide +kernel⟩, List.mem_of_getElem? (i := 825) (by decide +kernel), List.mem_of_getElem? (i := 823) (by decide +kernel), List.mem_of_getElem? (i := 824) (by decide +kernel)⟩
theorem lw_p38 : lw_okq (⟨"VanPlaysModel", "four", "(I)V"⟩, 43) := ⟨⟨by decide +kernel, by decide +kernel⟩, List.mem_of_getElem? (i := 863) (by decide +kernel), List.mem_of_getElem? (i := 1008) (by decide +kernel), List.mem_of_getElem? (i := 1009) (by decide +kernel)⟩
theorem lw_p39 : lw_okq (⟨"VanPlaysModel", "taken", "()V"⟩, 43) := ⟨⟨by decide +kernel, by decide +kernel⟩, List.mem_of_getElem? (i := 863) (by decide +kernel), List.mem_of_getElem? (i := 1020) (by decide +kernel), List.mem_of_getElem? (i := 1021) (by decide +kernel)⟩
theorem lw_p40 : lw_okq (⟨"VanPlaysModel", "areAmps", "(II)Z"⟩, 43) := ⟨⟨by decide +kernel, by decide +kernel⟩, List.mem_of_getElem? (i := 863) (by decide +kernel), List.mem_of_getElem? (i := 1027) (by decide +kernel), List.mem_of_getElem? (i := 1028) (by decide +kernel)⟩
theorem lw_p41 : lw_okq (⟨"VanPlaysModel", "wire", "(III)V"⟩, 43) := ⟨⟨by decide +kernel, by decide +kernel⟩, List.mem_of_getElem? (i := 863) (by decide +kernel), List.mem_of_getElem? (i := 1031) (by decide +kernel), List.mem_of_getElem? (i := 1032) (by decide +kernel)⟩
theorem lw_p42 : lw_okq (⟨"VanPlaysModel", "isHall", "(I)Z"⟩, 43) := ⟨⟨by decide +kernel, by decide +kernel⟩, List.mem_of_getElem? (i := 863) (by decide +kernel), List.mem_of_getElem? (i := 1039) (by decide +kernel), List.mem_of_getElem? (i := 1040) (by decide +kernel)⟩
theorem lw_p43 : lw_okq (⟨"VanPlaysModel", "isShow", "(I)Z"⟩, 43) := ⟨⟨by decide +kernel, by decide +kernel⟩, List.mem_of_getElem? (i := 863) (by decide +kernel), List.mem_of_getElem? (i := 1051) (by decide +kernel), List.mem_of_getElem? (i := 1052) (by decide +kernel)⟩
theorem lw_p44 : lw_okq (⟨"VanPlaysModel", "fit", "(II)I"⟩, 43) := ⟨⟨by decide +kernel, by decide +kernel⟩, List.mem_of_getElem? (i := 863) (by decide +kernel), List.mem_of_getElem? (i := 1059) (by decide +kernel), List.mem_of_getElem? (i := 1060) (by decide +kernel)⟩
theorem lw_p45 : lw_okq (⟨"VanPlaysModel", "plug", "(II)Z"⟩, 43) := ⟨⟨by decide +kernel, by decide +kernel⟩, List.mem_of_getElem? (i := 863) (by decide +kernel), List.mem_of_getElem? (i := 1063) (by decide +kernel), List.mem_of_getElem? (i := 1064) (by decide +kernel)⟩
theorem lw_p46 : lw_okq (⟨"VanPlaysModel", "stand", "(IIIIII)V"⟩, 43) := ⟨⟨by decide +kernel, by decide +kernel⟩, List.mem_of_getElem? (i := 863) (by decide +kernel), List.mem_of_getElem? (i := 1079) (by decide +kernel), List.mem_of_getElem? (i := 1080) (by decide +kernel)⟩
theorem lw_p47 : lw_okq (⟨"VanPlaysModel", "go", "(III)Z"⟩, 43) := ⟨⟨by decide +kernel, by decide +kernel⟩, List.mem_of_getElem? (i := 863) (by decide +kernel), List.mem_of_getElem? (i := 1083) (by decide +kernel), List.mem_of_getElem? (i := 1084) (by decide +kernel)⟩
def lw_privs_3 : List (MethodName × Nat) := [(⟨"VanPlays$TermsReader", "readSubsidy", "()Z"⟩, 12), (⟨"VanPlays$TermsReader", "readLoss", "()Z"⟩, 12), (⟨"VanPlays$Terms", "keptBeforeLoss", "(I)I"⟩, 7), (⟨"VanPlays$Terms", "subsidyOfFee", "()I"⟩, 7), (⟨"VanPlays", "nightsOnTours", "()I"⟩, 8), (⟨"java/lang/Throwable", "fillInStackTrace", "(I)Ljava/lang/Throwable;"⟩, 6), (⟨"VanPlaysModel", "four", "(I)V"⟩, 43), (⟨"VanPlaysModel", "taken", "()V"⟩, 43), (⟨"VanPlaysModel", "areAmps", "(II)Z"⟩, 43), (⟨"VanPlaysModel", "wire", "(III)V"⟩, 43), (⟨"VanPlaysModel", "isHall", "(I)Z"⟩, 43), (⟨"VanPlaysModel", "isShow", "(I)Z"⟩, 43), (⟨"VanPlaysModel", "fit", "(II)I"⟩, 43), (⟨"VanPlaysModel", "plug", "(II)Z"⟩, 43), (⟨"VanPlaysModel", "stand", "(IIIIII)V"⟩, 43), (⟨"VanPlaysModel", "go", "(III)Z"⟩, 43)]
theorem lw_r3 : ∀ q ∈ lw_privs_3, lw_okq q := List.forall_mem_cons.mpr ⟨lw_p32, List.forall_mem_cons.mpr ⟨lw_p33, List.forall_mem_cons.mpr ⟨lw_p34, List.forall_mem_cons.mpr ⟨lw_p35, List.forall_mem_cons.mpr ⟨lw_p36, List.forall_mem_cons.mpr ⟨lw_p37, List.forall_mem_cons.mpr ⟨lw_p38, List.forall_mem_cons.mpr ⟨lw_p39, List.forall_mem_cons.mpr ⟨lw_p40, List.forall_mem_cons.mpr ⟨lw_p41, List.forall_mem_cons.mpr ⟨lw_p42, List.forall_mem_cons.mpr ⟨lw_p43, List.forall_mem_cons.mpr ⟨lw_p44, List.forall_mem_cons.mpr ⟨lw_p45, List.forall_mem_cons.mpr ⟨lw_p46, List.forall_mem_cons.mpr ⟨lw_p47, fun _ h => absurd h List.not_mem_nil⟩⟩⟩⟩⟩⟩⟩⟩⟩⟩⟩⟩⟩⟩⟩⟩
theorem lw_p48 : lw_okq (⟨"VanPlaysModel", "milesOf", "(II)I"⟩, 43) := ⟨⟨by decide +kernel, by decide +kernel⟩, List.mem_of_getElem? (i := 863) (by decide +kernel), List.mem_of_getElem? (i := 1087) (by decide +kernel), List.mem_of_getElem? (i := 1088) (by decide +kernel)⟩
theorem lw_p49 : lw_okq (⟨"VanPlaysModel", "isFree", "(III)Z"⟩, 43) := ⟨⟨by decide +kernel, by decide +kernel⟩, List.mem_of_getElem? (i := 863) (by decide +kernel), List.mem_of_getElem? (i := 1091) (by decide +kernel), List.mem_of_getElem? (i := 1092) (by decide +kernel)⟩
theorem lw_p50 : lw_okq (⟨"VanPlaysModel", "wasThere", "(I)Z"⟩, 43) := ⟨⟨by decide +kernel, by decide +kernel⟩, List.mem_of_getElem? (i := 863) (by decide +kernel), List.mem_of_getElem? (i := 1095) (by decide +kernel), List.mem_of_getElem? (i := 1096) (by decide +kernel)⟩
theorem lw_p51 : lw_okq (⟨"VanPlaysModel", "rest", "(III)I"⟩, 43) := ⟨⟨by decide +kernel, by decide +kernel⟩, List.mem_of_getElem? (i := 863) (by decide +kernel), List.mem_of_getElem? (i := 1099) (by decide +kernel), List.mem_of_getElem? (i := 1100) (by decide +kernel)⟩
theorem lw_p52 : lw_okq (⟨"VanPlaysModel", "isLawful", "(I)Z"⟩, 43) := ⟨⟨by decide +kernel, by decide +kernel⟩, List.mem_of_getElem? (i := 863) (by decide +kernel), List.mem_of_getElem? (i := 1111) (by decide +kernel), List.mem_of_getElem? (i := 1112) (by decide +kernel)⟩
theorem lw_p53 : lw_okq (⟨"VanPlaysModel", "next", "()V"⟩, 43) := ⟨⟨by decide +kernel, by decide +kernel⟩, List.mem_of_getElem? (i := 863) (by decide +kernel), List.mem_of_getElem? (i := 1123) (by decide +kernel), List.mem_of_getElem? (i := 1124) (by decide +kernel)⟩
theorem lw_p54 : lw_okq (⟨"VanPlaysModel", "peek", "()I"⟩, 43) := ⟨⟨by decide +kernel, by decide +kernel⟩, List.mem_of_getElem? (i := 863) (by decide +kernel), List.mem_of_getElem? (i := 1127) (by decide +kernel), List.mem_of_getElem? (i := 1128) (by decide +kernel)⟩
theorem lw_p55 : lw_okq (⟨"VanPlaysModel", "term", "()Z"⟩, 43) := ⟨⟨by decide +kernel, by decide +kernel⟩, List.mem_of_getElem? (i := 863) (by decide +kernel), List.mem_of_getElem? (i := 1137) (by decide +kernel), List.mem_of_getElem? (i := 1138) (by decide +kernel)⟩
theorem lw_p56 : lw_okq (⟨"VanPlaysModel", "isWord", "(J)Z"⟩, 43) := ⟨⟨by decide +kernel, by decide +kernel⟩, List.mem_of_getElem? (i := 863) (by decide +kernel), List.mem_of_getElem? (i := 1142) (by decide +kernel), List.mem_of_getElem? (i := 1143) (by decide +kernel)⟩
theorem lw_p57 : lw_okq (⟨"VanPlaysModel", "cant", "()Z"⟩, 43) := ⟨⟨by decide +kernel, by decide +kernel⟩, List.mem_of_getElem? (i := 863) (by decide +kernel), List.mem_of_getElem? (i := 1149) (by decide +kernel), List.mem_of_getElem? (i := 1150) (by decide +kernel)⟩
theorem lw_p58 : lw_okq (⟨"VanPlaysModel", "wrong", "(II)Z"⟩, 43) := ⟨⟨by decide +kernel, by decide +kernel⟩, List.mem_of_getElem? (i := 863) (by decide +kernel), List.mem_of_getElem? (i := 1153) (by decide +kernel), List.mem_of_getElem? (i := 1154) (by decide +kernel)⟩
theorem lw_p59 : lw_okq (⟨"VanPlaysModel", "take", "(III)Z"⟩, 43) := ⟨⟨by decide +kernel, by decide +kernel⟩, List.mem_of_getElem? (i := 863) (by decide +kernel), List.mem_of_getElem? (i := 1158) (by decide +kernel), List.mem_of_getElem? (i := 1159) (by decide +kernel)⟩
theorem lw_p60 : lw_okq (⟨"VanPlaysModel", "behind", "(J)Z"⟩, 43) := ⟨⟨by decide +kernel, by decide +kernel⟩, List.mem_of_getElem? (i := 863) (by decide +kernel), List.mem_of_getElem? (i := 1163) (by decide +kernel), List.mem_of_getElem? (i := 1164) (by decide +kernel)⟩
theorem lw_p61 : lw_okq (⟨"VanPlaysModel", "throwsIf", "(Z)Z"⟩, 43) := ⟨⟨by decide +kernel, by decide +kernel⟩, List.mem_of_getElem? (i := 863) (by decide +kernel), List.mem_of_getElem? (i := 1183) (by decide +kernel), List.mem_of_getElem? (i := 1184) (by decide +kernel)⟩
theorem lw_p62 : lw_okq (⟨"VanPlaysModel", "shareOf", "(III)I"⟩, 43) := ⟨⟨by decide +kernel, by decide +kernel⟩, List.mem_of_getElem? (i := 863) (by decide +kernel), List.mem_of_getElem? (i := 1187) (by decide +kernel), List.mem_of_getElem? (i := 1188) (by decide +kernel)⟩
theorem lw_p63 : lw_okq (⟨"VanPlaysModel", "company", "(II)I"⟩, 43) := ⟨⟨by decide +kernel, by decide +kernel⟩, List.mem_of_getElem? (i := 863) (by decide +kernel), List.mem_of_getElem? (i := 1191) (by decide +kernel), List.mem_of_getElem? (i := 1192) (by decide +kernel)⟩
def lw_privs_4 : List (MethodName × Nat) := [(⟨"VanPlaysModel", "milesOf", "(II)I"⟩, 43), (⟨"VanPlaysModel", "isFree", "(III)Z"⟩, 43), (⟨"VanPlaysModel", "wasThere", "(I)Z"⟩, 43), (⟨"VanPlaysModel", "rest", "(III)I"⟩, 43), (⟨"VanPlaysModel", "isLawful", "(I)Z"⟩, 43), (⟨"VanPlaysModel", "next", "()V"⟩, 43), (⟨"VanPlaysModel", "peek", "()I"⟩, 43), (⟨"VanPlaysModel", "term", "()Z"⟩, 43), (⟨"VanPlaysModel", "isWord", "(J)Z"⟩, 43), (⟨"VanPlaysModel", "cant", "()Z"⟩, 43), (⟨"VanPlaysModel", "wrong", "(II)Z"⟩, 43), (⟨"VanPlaysModel", "take", "(III)Z"⟩, 43), (⟨"VanPlaysModel", "behind", "(J)Z"⟩, 43), (⟨"VanPlaysModel", "throwsIf", "(Z)Z"⟩, 43), (⟨"VanPlaysModel", "shareOf", "(III)I"⟩, 43), (⟨"VanPlaysModel", "company", "(II)I"⟩, 43)]
theorem lw_r4 : ∀ q ∈ lw_privs_4, lw_okq q := List.forall_mem_cons.mpr ⟨lw_p48, List.forall_mem_cons.mpr ⟨lw_p49, List.forall_mem_cons.mpr ⟨lw_p50, List.forall_mem_cons.mpr ⟨lw_p51, List.forall_mem_cons.mpr ⟨lw_p52, List.forall_mem_cons.mpr ⟨lw_p53, List.forall_mem_cons.mpr ⟨lw_p54, List.forall_mem_cons.mpr ⟨lw_p55, List.forall_mem_cons.mpr ⟨lw_p56, List.forall_mem_cons.mpr ⟨lw_p57, List.forall_mem_cons.mpr ⟨lw_p58, List.forall_mem_cons.mpr ⟨lw_p59, List.forall_mem_cons.mpr ⟨lw_p60, List.forall_mem_cons.mpr ⟨lw_p61, List.forall_mem_cons.mpr ⟨lw_p62, List.forall_mem_cons.mpr ⟨lw_p63, fun _ h => absurd h List.not_mem_nil⟩⟩⟩⟩⟩⟩⟩⟩⟩⟩⟩⟩⟩⟩⟩⟩
def lw_privs : List (MethodName × Nat) := lw_privs_1 ++ (lw_privs_2 ++ (lw_privs_3 ++ (lw_privs_4)))
def lw_tbl : List Cond := k2_sels lw_privs ++ tables_1
theorem lw_privs_ok : ∀ q ∈ lw_privs, lw_okq q := by
  show ∀ q ∈ lw_privs_1 ++ (lw_privs_2 ++ (lw_privs_3 ++ (lw_privs_4))), lw_okq q
  exact List.forall_mem_append.mpr ⟨lw_r1, List.forall_mem_append.mpr ⟨lw_r2, List.forall_mem_append.mpr ⟨lw_r3, lw_r4⟩⟩⟩
-- ===== end of PART A; then your names; then what follows =====
end
section
def RX0 : String := "VanPlays$Amps"
def TX0 : u_T := fun k => match k with
  | 0 => ("VanPlays$Amps", "amps", "[I", true)
  | _ => ("VanPlays$Amps", "size", "I", false)
def tyX0 : Nat → FieldType := fun k => match k with
  | 0 => .array .int
  | _ => .int
abbrev wsX00 : List Cond := u_ws RX0 TX0 2
theorem nmX0 : ∀ a, a < 2 → ∀ b, b < 2 → a ≠ b → (TX0 a).2.1 ≠ (TX0 b).2.1 := by decide +kernel
theorem tyX0_ok : ∀ k, k < 2 → parseFieldDescriptor (TX0 k).2.2.1 = some (tyX0 k) := by decide +kernel
abbrev cX0_init : ByteArray := prog_2_method_1_code
def yX0_init : MethodName := ⟨RX0, "<init>", "(I)V"⟩
abbrev cX0_take : ByteArray := prog_2_method_2_code
def yX0_take : MethodName := ⟨RX0, "take", "(LVanPlays$Tape;)V"⟩
def RX1 : String := "VanPlays$Hall"
def TX1 : u_T := fun k => match k with
  | 0 => ("VanPlays$Hall", "circuits", "LVanPlays$Amps;", true)
  | 1 => ("VanPlays$Hall", "given", "[I", true)
  | 2 => ("VanPlays$Hall", "x", "I", false)
  | 3 => ("VanPlays$Hall", "y", "I", false)
  | 4 => ("VanPlays$Hall", "high", "I", false)
  | _ => ("VanPlays$Hall", "wide", "I", false)
def tyX1 : Nat → FieldType := fun k => match k with
  | 0 => .object "VanPlays$Amps"
  | 1 => .array .int
  | 2 => .int
  | 3 => .int
  | 4 => .int
  | _ => .int
abbrev wsX10 : List Cond := u_ws RX1 TX1 6
theorem nmX1 : ∀ a, a < 6 → ∀ b, b < 6 → a ≠ b → (TX1 a).2.1 ≠ (TX1 b).2.1 := by decide +kernel
theorem tyX1_ok : ∀ k, k < 6 → parseFieldDescriptor (TX1 k).2.2.1 = some (tyX1 k) := by decide +kernel
abbrev cX1_init : ByteArray := prog_3_method_1_code
def yX1_init : MethodName := ⟨RX1, "<init>", "()V"⟩
abbrev cX1_build : ByteArray := prog_3_method_2_code
def yX1_build : MethodName := ⟨RX1, "build", "(IILVanPlays$Tape;)V"⟩
abbrev cX1_givenToOthers : ByteArray := prog_3_method_3_code
def yX1_givenToOthers : MethodName := ⟨RX1, "givenToOthers", "(I)I"⟩
abbrev cX1_milesTo : ByteArray := prog_3_method_4_code
def yX1_milesTo : MethodName := ⟨RX1, "milesTo", "(LVanPlays$Hall;)I"⟩
def RX2 : String := "VanPlays$Planner"
def TX2 : u_T := fun k => match k with
  | 0 => ("VanPlays$Planner", "asked", "[I", true)
  | 1 => ("VanPlays$Planner", "points", "[I", true)
  | 2 => ("VanPlays$Planner", "nightsApart", "[I", true)
  | 3 => ("VanPlays$Planner", "closed", "[I", true)
  | 4 => ("VanPlays$Planner", "gain", "[I", true)
  | 5 => ("VanPlays$Planner", "laterGain", "[I", true)
  | 6 => ("VanPlays$Planner", "size", "I", false)
  | 7 => ("VanPlays$Planner", "from", "I", false)
  | 8 => ("VanPlays$Planner", "to", "I", false)
  | 9 => ("VanPlays$Planner", "miles", "I", false)
  | _ => ("VanPlays$Planner", "row", "I", false)
def tyX2 : Nat → FieldType := fun k => match k with
  | 0 => .array .int
  | 1 => .array .int
  | 2 => .array .int
  | 3 => .array .int
  | 4 => .array .int
  | 5 => .array .int
  | 6 => .int
  | 7 => .int
  | 8 => .int
  | 9 => .int
  | _ => .int
abbrev wsX20 : List Cond := u_ws RX2 TX2 11
theorem nmX2 : ∀ a, a < 11 → ∀ b, b < 11 → a ≠ b → (TX2 a).2.1 ≠ (TX2 b).2.1 := by decide +kernel
theorem tyX2_ok : ∀ k, k < 11 → parseFieldDescriptor (TX2 k).2.2.1 = some (tyX2 k) := by decide +kernel
abbrev cX2_init : ByteArray := prog_4_method_1_code
def yX2_init : MethodName := ⟨RX2, "<init>", "()V"⟩
abbrev cX2_start : ByteArray := prog_4_method_2_code
def yX2_start : MethodName := ⟨RX2, "start", "(LVanPlays$Show;)V"⟩
abbrev cX2_asksMore : ByteArray := prog_4_method_3_code
def yX2_asksMore : MethodName := ⟨RX2, "asksMore", "()Z"⟩
abbrev cX2_ask : ByteArray := prog_4_method_4_code
def yX2_ask : MethodName := ⟨RX2, "ask", "(I[LVanPlays$Hall;I)V"⟩
abbrev cX2_close : ByteArray := prog_4_method_5_code
def yX2_close : MethodName := ⟨RX2, "close", "(I)V"⟩
abbrev cX2_bookBest : ByteArray := prog_4_method_6_code
def yX2_bookBest : MethodName := ⟨RX2, "bookBest", "(LVanPlays$Show;)V"⟩
abbrev cX2_weigh : ByteArray := prog_4_method_7_code
def yX2_weigh : MethodName := ⟨RX2, "weigh", "(III)V"⟩
abbrev cX2_gainRested : ByteArray := prog_4_method_8_code
def yX2_gainRested : MethodName := ⟨RX2, "gainRested", "(III)I"⟩
abbrev cX2_gainNextNight : ByteArray := prog_4_method_9_code
def yX2_gainNextNight : MethodName := ⟨RX2, "gainNextNight", "(IIII)I"⟩
abbrev cX2_walk : ByteArray := prog_4_method_10_code
def yX2_walk : MethodName := ⟨RX2, "walk", "(LVanPlays$Show;)V"⟩
abbrev cX2_mostPoints : ByteArray := prog_4_method_11_code
def yX2_mostPoints : MethodName := ⟨RX2, "mostPoints", "()I"⟩
abbrev cX2_firstBringing : ByteArray := prog_4_method_12_code
def yX2_firstBringing : MethodName := ⟨RX2, "firstBringing", "(IIIIII)I"⟩
abbrev cX2_has : ByteArray := prog_4_method_13_code
def yX2_has : MethodName := ⟨RX2, "has", "(II)Z"⟩
abbrev cX2_cell : ByteArray := prog_4_method_14_code
def yX2_cell : MethodName := ⟨RX2, "cell", "(IIII)I"⟩
abbrev cX2_laterCell : ByteArray := prog_4_method_15_code
def yX2_laterCell : MethodName := ⟨RX2, "laterCell", "(III)I"⟩
def RX3 : String := "VanPlays$Plugging"
def TX3 : u_T := fun k => match k with
  | 0 => ("VanPlays$Plugging", "freeAmps", "[I", true)
  | 1 => ("VanPlays$Plugging", "lampAmps", "[I", true)
  | 2 => ("VanPlays$Plugging", "ampsFrom", "[I", true)
  | 3 => ("VanPlays$Plugging", "biggestFrom", "[I", true)
  | 4 => ("VanPlays$Plugging", "tried", "[I", true)
  | 5 => ("VanPlays$Plugging", "found", "[I", true)
  | 6 => ("VanPlays$Plugging", "lampCount", "I", false)
  | 7 => ("VanPlays$Plugging", "circuitCount", "I", false)
  | _ => ("VanPlays$Plugging", "least", "I", false)
def tyX3 : Nat → FieldType := fun k => match k with
  | 0 => .array .int
  | 1 => .array .int
  | 2 => .array .int
  | 3 => .array .int
  | 4 => .array .int
  | 5 => .array .int
  | 6 => .int
  | 7 => .int
  | _ => .int
abbrev wsX30 : List Cond := u_ws RX3 TX3 9
theorem nmX3 : ∀ a, a < 9 → ∀ b, b < 9 → a ≠ b → (TX3 a).2.1 ≠ (TX3 b).2.1 := by decide +kernel
theorem tyX3_ok : ∀ k, k < 9 → parseFieldDescriptor (TX3 k).2.2.1 = some (tyX3 k) := by decide +kernel
abbrev cX3_init : ByteArray := prog_5_method_1_code
def yX3_init : MethodName := ⟨RX3, "<init>", "()V"⟩
abbrev cX3_canPlug : ByteArray := prog_5_method_2_code
def yX3_canPlug : MethodName := ⟨RX3, "canPlug", "(LVanPlays$Amps;LVanPlays$Amps;)Z"⟩
abbrev cX3_leastLack : ByteArray := prog_5_method_3_code
def yX3_leastLack : MethodName := ⟨RX3, "leastLack", "(LVanPlays$Amps;LVanPlays$Amps;)I"⟩
abbrev cX3_circuitOf : ByteArray := prog_5_method_4_code
def yX3_circuitOf : MethodName := ⟨RX3, "circuitOf", "(I)I"⟩
abbrev cX3_lay : ByteArray := prog_5_method_5_code
def yX3_lay : MethodName := ⟨RX3, "lay", "(LVanPlays$Amps;LVanPlays$Amps;)V"⟩
abbrev cX3_search : ByteArray := prog_5_method_6_code
def yX3_search : MethodName := ⟨RX3, "search", "(II)V"⟩
abbrev cX3_keep : ByteArray := prog_5_method_7_code
def yX3_keep : MethodName := ⟨RX3, "keep", "(I)V"⟩
abbrev cX3_lackAtLeast : ByteArray := prog_5_method_8_code
def yX3_lackAtLeast : MethodName := ⟨RX3, "lackAtLeast", "(I)I"⟩
abbrev cX3_isLikeOneAhead : ByteArray := prog_5_method_9_code
def yX3_isLikeOneAhead : MethodName := ⟨RX3, "isLikeOneAhead", "(I)Z"⟩
def RX4 : String := "VanPlays$Show"
def TX4 : u_T := fun k => match k with
  | 0 => ("VanPlays$Show", "lamps", "LVanPlays$Amps;", true)
  | 1 => ("VanPlays$Show", "tour", "[I", true)
  | 2 => ("VanPlays$Show", "doors", "[I", true)
  | 3 => ("VanPlays$Show", "terms", "LVanPlays$Terms;", true)
  | 4 => ("VanPlays$Show", "high", "I", false)
  | 5 => ("VanPlays$Show", "wide", "I", false)
  | 6 => ("VanPlays$Show", "from", "I", false)
  | 7 => ("VanPlays$Show", "to", "I", false)
  | 8 => ("VanPlays$Show", "miles", "I", false)
  | _ => ("VanPlays$Show", "row", "I", false)
def tyX4 : Nat → FieldType := fun k => match k with
  | 0 => .object "VanPlays$Amps"
  | 1 => .array .int
  | 2 => .array .int
  | 3 => .object "VanPlays$Terms"
  | 4 => .int
  | 5 => .int
  | 6 => .int
  | 7 => .int
  | 8 => .int
  | _ => .int
abbrev wsX40 : List Cond := u_ws RX4 TX4 10
theorem nmX4 : ∀ a, a < 10 → ∀ b, b < 10 → a ≠ b → (TX4 a).2.1 ≠ (TX4 b).2.1 := by decide +kernel
theorem tyX4_ok : ∀ k, k < 10 → parseFieldDescriptor (TX4 k).2.2.1 = some (tyX4 k) := by decide +kernel
abbrev cX4_init : ByteArray := prog_6_method_1_code
def yX4_init : MethodName := ⟨RX4, "<init>", "()V"⟩
abbrev cX4_build : ByteArray := prog_6_method_2_code
def yX4_build : MethodName := ⟨RX4, "build", "(IILVanPlays$Tape;)V"⟩
abbrev cX4_plan : ByteArray := prog_6_method_3_code
def yX4_plan : MethodName := ⟨RX4, "plan", "(IIII)V"⟩
abbrev cX4_forgetTour : ByteArray := prog_6_method_4_code
def yX4_forgetTour : MethodName := ⟨RX4, "forgetTour", "()V"⟩
abbrev cX4_partOfDoor : ByteArray := prog_6_method_5_code
def yX4_partOfDoor : MethodName := ⟨RX4, "partOfDoor", "(II)I"⟩
def RX5 : String := "VanPlays$Tape"
def TX5 : u_T := fun k => match k with
  | 0 => ("VanPlays$Tape", "bytes", "[I", true)
  | _ => ("VanPlays$Tape", "length", "I", false)
def tyX5 : Nat → FieldType := fun k => match k with
  | 0 => .array .int
  | _ => .int
abbrev wsX50 : List Cond := u_ws RX5 TX5 2
theorem nmX5 : ∀ a, a < 2 → ∀ b, b < 2 → a ≠ b → (TX5 a).2.1 ≠ (TX5 b).2.1 := by decide +kernel
theorem tyX5_ok : ∀ k, k < 2 → parseFieldDescriptor (TX5 k).2.2.1 = some (tyX5 k) := by decide +kernel
abbrev cX5_init : ByteArray := prog_7_method_1_code
def yX5_init : MethodName := ⟨RX5, "<init>", "()V"⟩
abbrev cX5_append : ByteArray := prog_7_method_2_code
def yX5_append : MethodName := ⟨RX5, "append", "(I)V"⟩
abbrev cX5_copyFrom : ByteArray := prog_7_method_3_code
def yX5_copyFrom : MethodName := ⟨RX5, "copyFrom", "(LVanPlays$Tape;)V"⟩
abbrev cX5_byteAt : ByteArray := prog_7_method_4_code
def yX5_byteAt : MethodName := ⟨RX5, "byteAt", "(I)I"⟩
abbrev cX5_holdsAmps : ByteArray := prog_7_method_5_code
def yX5_holdsAmps : MethodName := ⟨RX5, "holdsAmps", "(II)Z"⟩
def RX6 : String := "VanPlays$Terms"
def TX6 : u_T := fun k => match k with
  | 0 => ("VanPlays$Terms", "share", "[I", true)
  | 1 => ("VanPlays$Terms", "above", "[I", true)
  | 2 => ("VanPlays$Terms", "shares", "I", false)
  | 3 => ("VanPlays$Terms", "fee", "I", false)
  | 4 => ("VanPlays$Terms", "subsidy", "I", false)
  | 5 => ("VanPlays$Terms", "most", "I", false)
  | _ => ("VanPlays$Terms", "lossOfBoth", "Z", false)
def tyX6 : Nat → FieldType := fun k => match k with
  | 0 => .array .int
  | 1 => .array .int
  | 2 => .int
  | 3 => .int
  | 4 => .int
  | 5 => .int
  | _ => .boolean
abbrev wsX60 : List Cond := u_ws RX6 TX6 7
theorem nmX6 : ∀ a, a < 7 → ∀ b, b < 7 → a ≠ b → (TX6 a).2.1 ≠ (TX6 b).2.1 := by decide +kernel
theorem tyX6_ok : ∀ k, k < 7 → parseFieldDescriptor (TX6 k).2.2.1 = some (tyX6 k) := by decide +kernel
abbrev cX6_init : ByteArray := prog_8_method_1_code
def yX6_init : MethodName := ⟨RX6, "<init>", "()V"⟩
abbrev cX6_clear : ByteArray := prog_8_method_2_code
def yX6_clear : MethodName := ⟨RX6, "clear", "()V"⟩
abbrev cX6_copyFrom : ByteArray := prog_8_method_3_code
def yX6_copyFrom : MethodName := ⟨RX6, "copyFrom", "(LVanPlays$Terms;)V"⟩
abbrev cX6_companyHas : ByteArray := prog_8_method_4_code
def yX6_companyHas : MethodName := ⟨RX6, "companyHas", "(I)I"⟩
abbrev cX6_schemeGives : ByteArray := prog_8_method_5_code
def yX6_schemeGives : MethodName := ⟨RX6, "schemeGives", "(I)I"⟩
abbrev cX6_hallKeeps : ByteArray := prog_8_method_6_code
def yX6_hallKeeps : MethodName := ⟨RX6, "hallKeeps", "(I)I"⟩
abbrev cX6_keptBeforeLoss : ByteArray := prog_8_method_7_code
def yX6_keptBeforeLoss : MethodName := ⟨RX6, "keptBeforeLoss", "(I)I"⟩
abbrev cX6_subsidyOfFee : ByteArray := prog_8_method_8_code
def yX6_subsidyOfFee : MethodName := ⟨RX6, "subsidyOfFee", "()I"⟩
def RX7 : String := "VanPlays$TermsReader"
def TX7 : u_T := fun k => match k with
  | 0 => ("VanPlays$TermsReader", "draft", "LVanPlays$Terms;", true)
  | 1 => ("VanPlays$TermsReader", "told", "I", false)
  | 2 => ("VanPlays$TermsReader", "fault", "I", false)
  | 3 => ("VanPlays$TermsReader", "place", "I", false)
  | 4 => ("VanPlays$TermsReader", "text", "LVanPlays$Tape;", true)
  | 5 => ("VanPlays$TermsReader", "feeTold", "Z", false)
  | 6 => ("VanPlays$TermsReader", "subsidyTold", "Z", false)
  | 7 => ("VanPlays$TermsReader", "lossTold", "Z", false)
  | 8 => ("VanPlays$TermsReader", "at", "I", false)
  | 9 => ("VanPlays$TermsReader", "first", "I", false)
  | 10 => ("VanPlays$TermsReader", "kind", "I", false)
  | _ => ("VanPlays$TermsReader", "number", "I", false)
def tyX7 : Nat → FieldType := fun k => match k with
  | 0 => .object "VanPlays$Terms"
  | 1 => .int
  | 2 => .int
  | 3 => .int
  | 4 => .object "VanPlays$Tape"
  | 5 => .boolean
  | 6 => .boolean
  | 7 => .boolean
  | 8 => .int
  | 9 => .int
  | 10 => .int
  | _ => .int
abbrev wsX70 : List Cond := u_ws RX7 TX7 12
theorem nmX7 : ∀ a, a < 12 → ∀ b, b < 12 → a ≠ b → (TX7 a).2.1 ≠ (TX7 b).2.1 := by decide +kernel
theorem tyX7_ok : ∀ k, k < 12 → parseFieldDescriptor (TX7 k).2.2.1 = some (tyX7 k) := by decide +kernel
abbrev cX7_init : ByteArray := prog_9_method_1_code
def yX7_init : MethodName := ⟨RX7, "<init>", "()V"⟩
abbrev cX7_readText : ByteArray := prog_9_method_2_code
def yX7_readText : MethodName := ⟨RX7, "readText", "(LVanPlays$Tape;)Z"⟩
abbrev cX7_start : ByteArray := prog_9_method_3_code
def yX7_start : MethodName := ⟨RX7, "start", "(LVanPlays$Tape;)V"⟩
abbrev cX7_readTerm : ByteArray := prog_9_method_4_code
def yX7_readTerm : MethodName := ⟨RX7, "readTerm", "()Z"⟩
abbrev cX7_readFee : ByteArray := prog_9_method_5_code
def yX7_readFee : MethodName := ⟨RX7, "readFee", "()Z"⟩
abbrev cX7_readShare : ByteArray := prog_9_method_6_code
def yX7_readShare : MethodName := ⟨RX7, "readShare", "()Z"⟩
abbrev cX7_readSubsidy : ByteArray := prog_9_method_7_code
def yX7_readSubsidy : MethodName := ⟨RX7, "readSubsidy", "()Z"⟩
abbrev cX7_readLoss : ByteArray := prog_9_method_8_code
def yX7_readLoss : MethodName := ⟨RX7, "readLoss", "()Z"⟩
abbrev cX7_readNumber : ByteArray := prog_9_method_9_code
def yX7_readNumber : MethodName := ⟨RX7, "readNumber", "(II)Z"⟩
abbrev cX7_readWord : ByteArray := prog_9_method_10_code
def yX7_readWord : MethodName := ⟨RX7, "readWord", "(Ljava/lang/String;)Z"⟩
abbrev cX7_readStop : ByteArray := prog_9_method_11_code
def yX7_readStop : MethodName := ⟨RX7, "readStop", "()Z"⟩
abbrev cX7_refuseToken : ByteArray := prog_9_method_12_code
def yX7_refuseToken : MethodName := ⟨RX7, "refuseToken", "()Z"⟩
abbrev cX7_refuse : ByteArray := prog_9_method_13_code
def yX7_refuse : MethodName := ⟨RX7, "refuse", "(I)Z"⟩
abbrev cX7_nextToken : ByteArray := prog_9_method_14_code
def yX7_nextToken : MethodName := ⟨RX7, "nextToken", "()V"⟩
abbrev cX7_readRun : ByteArray := prog_9_method_15_code
def yX7_readRun : MethodName := ⟨RX7, "readRun", "()V"⟩
abbrev cX7_isWord : ByteArray := prog_9_method_16_code
def yX7_isWord : MethodName := ⟨RX7, "isWord", "(Ljava/lang/String;)Z"⟩
abbrev cX7_isBlank : ByteArray := prog_9_method_17_code
def yX7_isBlank : MethodName := ⟨RX7, "isBlank", "(I)Z"⟩
abbrev cX7_isLetter : ByteArray := prog_9_method_18_code
def yX7_isLetter : MethodName := ⟨RX7, "isLetter", "(I)Z"⟩
abbrev cX7_isDigit : ByteArray := prog_9_method_19_code
def yX7_isDigit : MethodName := ⟨RX7, "isDigit", "(I)Z"⟩
def RX8 : String := "VanPlays"
def TX8 : u_T := fun k => match k with
  | 0 => ("VanPlays", "tape", "LVanPlays$Tape;", true)
  | 1 => ("VanPlays", "halls", "[LVanPlays$Hall;", true)
  | 2 => ("VanPlays", "shows", "[LVanPlays$Show;", true)
  | 3 => ("VanPlays", "plugging", "LVanPlays$Plugging;", true)
  | 4 => ("VanPlays", "planner", "LVanPlays$Planner;", true)
  | 5 => ("VanPlays", "reader", "LVanPlays$TermsReader;", true)
  | 6 => ("VanPlays", "hallCount", "I", false)
  | _ => ("VanPlays", "showCount", "I", false)
def tyX8 : Nat → FieldType := fun k => match k with
  | 0 => .object "VanPlays$Tape"
  | 1 => .array (.object "VanPlays$Hall")
  | 2 => .array (.object "VanPlays$Show")
  | 3 => .object "VanPlays$Plugging"
  | 4 => .object "VanPlays$Planner"
  | 5 => .object "VanPlays$TermsReader"
  | 6 => .int
  | _ => .int
abbrev wsX80 : List Cond := u_ws RX8 TX8 8
theorem nmX8 : ∀ a, a < 8 → ∀ b, b < 8 → a ≠ b → (TX8 a).2.1 ≠ (TX8 b).2.1 := by decide +kernel
theorem tyX8_ok : ∀ k, k < 8 → parseFieldDescriptor (TX8 k).2.2.1 = some (tyX8 k) := by decide +kernel
abbrev cX8_init : ByteArray := prog_1_method_1_code
def yX8_init : MethodName := ⟨RX8, "<init>", "()V"⟩
abbrev cX8_feed : ByteArray := prog_1_method_2_code
def yX8_feed : MethodName := ⟨RX8, "feed", "(IIIII)I"⟩
abbrev cX8_end : ByteArray := prog_1_method_3_code
def yX8_end : MethodName := ⟨RX8, "end", "(I)Z"⟩
abbrev cX8_hall : ByteArray := prog_1_method_4_code
def yX8_hall : MethodName := ⟨RX8, "hall", "(IIII)I"⟩
abbrev cX8_show : ByteArray := prog_1_method_5_code
def yX8_show : MethodName := ⟨RX8, "show", "(IIIIII)I"⟩
abbrev cX8_rewire : ByteArray := prog_1_method_6_code
def yX8_rewire : MethodName := ⟨RX8, "rewire", "(III)Z"⟩
abbrev cX8_give : ByteArray := prog_1_method_7_code
def yX8_give : MethodName := ⟨RX8, "give", "(III)Z"⟩
abbrev cX8_fits : ByteArray := prog_1_method_8_code
def yX8_fits : MethodName := ⟨RX8, "fits", "(II)I"⟩
abbrev cX8_plugged : ByteArray := prog_1_method_9_code
def yX8_plugged : MethodName := ⟨RX8, "plugged", "(III)I"⟩
abbrev cX8_lacks : ByteArray := prog_1_method_10_code
def yX8_lacks : MethodName := ⟨RX8, "lacks", "(II)I"⟩
abbrev cX8_book : ByteArray := prog_1_method_11_code
def yX8_book : MethodName := ⟨RX8, "book", "(I)I"⟩
abbrev cX8_on : ByteArray := prog_1_method_12_code
def yX8_on : MethodName := ⟨RX8, "on", "(II)I"⟩
abbrev cX8_snow : ByteArray := prog_1_method_13_code
def yX8_snow : MethodName := ⟨RX8, "snow", "(II)I"⟩
abbrev cX8_worth : ByteArray := prog_1_method_14_code
def yX8_worth : MethodName := ⟨RX8, "worth", "(I)I"⟩
abbrev cX8_terms : ByteArray := prog_1_method_15_code
def yX8_terms : MethodName := ⟨RX8, "terms", "(I)I"⟩
abbrev cX8_fault : ByteArray := prog_1_method_16_code
def yX8_fault : MethodName := ⟨RX8, "fault", "()I"⟩
abbrev cX8_door : ByteArray := prog_1_method_17_code
def yX8_door : MethodName := ⟨RX8, "door", "(III)Z"⟩
abbrev cX8_shared : ByteArray := prog_1_method_18_code
def yX8_shared : MethodName := ⟨RX8, "shared", "(III)I"⟩
abbrev cX8_sum : ByteArray := prog_1_method_19_code
def yX8_sum : MethodName := ⟨RX8, "sum", "(I)I"⟩
abbrev cX8_keeps : ByteArray := prog_1_method_20_code
def yX8_keeps : MethodName := ⟨RX8, "keeps", "(I)I"⟩
abbrev cX8_count : ByteArray := prog_1_method_21_code
def yX8_count : MethodName := ⟨RX8, "count", "(I)I"⟩
abbrev cX8_isWithin : ByteArray := prog_1_method_22_code
def yX8_isWithin : MethodName := ⟨RX8, "isWithin", "(III)Z"⟩
abbrev cX8_isSize : ByteArray := prog_1_method_23_code
def yX8_isSize : MethodName := ⟨RX8, "isSize", "(I)Z"⟩
abbrev cX8_isNight : ByteArray := prog_1_method_24_code
def yX8_isNight : MethodName := ⟨RX8, "isNight", "(I)Z"⟩
abbrev cX8_isHall : ByteArray := prog_1_method_25_code
def yX8_isHall : MethodName := ⟨RX8, "isHall", "(I)Z"⟩
abbrev cX8_isShow : ByteArray := prog_1_method_26_code
def yX8_isShow : MethodName := ⟨RX8, "isShow", "(I)Z"⟩
abbrev cX8_isHallBuild : ByteArray := prog_1_method_27_code
def yX8_isHallBuild : MethodName := ⟨RX8, "isHallBuild", "(II)Z"⟩
abbrev cX8_fitOf : ByteArray := prog_1_method_28_code
def yX8_fitOf : MethodName := ⟨RX8, "fitOf", "(LVanPlays$Show;LVanPlays$Hall;)I"⟩
abbrev cX8_showAt : ByteArray := prog_1_method_29_code
def yX8_showAt : MethodName := ⟨RX8, "showAt", "(II)I"⟩
abbrev cX8_closeTakenNights : ByteArray := prog_1_method_30_code
def yX8_closeTakenNights : MethodName := ⟨RX8, "closeTakenNights", "(I)V"⟩
abbrev cX8_worthOfTour : ByteArray := prog_1_method_31_code
def yX8_worthOfTour : MethodName := ⟨RX8, "worthOfTour", "(I)I"⟩
abbrev cX8_nightsOnTours : ByteArray := prog_1_method_32_code
def yX8_nightsOnTours : MethodName := ⟨RX8, "nightsOnTours", "()I"⟩
abbrev cX8_canMove : ByteArray := prog_1_method_33_code
def yX8_canMove : MethodName := ⟨RX8, "canMove", "(LVanPlays$Show;II)Z"⟩
abbrev cX8_keepsWaysAndRests : ByteArray := prog_1_method_34_code
def yX8_keepsWaysAndRests : MethodName := ⟨RX8, "keepsWaysAndRests", "(LVanPlays$Show;)Z"⟩
def RX9 : String := "VanPlaysModel"
def TX9 : u_T := fun k => match k with
  | 0 => ("VanPlaysModel", "thrown", "I", false)
  | 1 => ("VanPlaysModel", "tape", "[B", true)
  | 2 => ("VanPlaysModel", "length", "I", false)
  | 3 => ("VanPlaysModel", "size", "I", false)
  | 4 => ("VanPlaysModel", "p", "I", false)
  | 5 => ("VanPlaysModel", "hx", "[I", true)
  | 6 => ("VanPlaysModel", "hy", "[I", true)
  | 7 => ("VanPlaysModel", "hHigh", "[I", true)
  | 8 => ("VanPlaysModel", "hWide", "[I", true)
  | 9 => ("VanPlaysModel", "circuitMany", "[I", true)
  | 10 => ("VanPlaysModel", "amps", "[I", true)
  | 11 => ("VanPlaysModel", "sHigh", "[I", true)
  | 12 => ("VanPlaysModel", "sWide", "[I", true)
  | 13 => ("VanPlaysModel", "lampMany", "[I", true)
  | 14 => ("VanPlaysModel", "lamps", "[I", true)
  | 15 => ("VanPlaysModel", "from", "[I", true)
  | 16 => ("VanPlaysModel", "to", "[I", true)
  | 17 => ("VanPlaysModel", "miles", "[I", true)
  | 18 => ("VanPlaysModel", "row", "[I", true)
  | 19 => ("VanPlaysModel", "points", "[I", true)
  | 20 => ("VanPlaysModel", "halls", "I", false)
  | 21 => ("VanPlaysModel", "shows", "I", false)
  | 22 => ("VanPlaysModel", "in", "[I", true)
  | 23 => ("VanPlaysModel", "load", "[I", true)
  | 24 => ("VanPlaysModel", "tour", "[I", true)
  | 25 => ("VanPlaysModel", "door", "[I", true)
  | 26 => ("VanPlaysModel", "asked", "[I", true)
  | 27 => ("VanPlaysModel", "option", "[I", true)
  | 28 => ("VanPlaysModel", "used", "[I", true)
  | 29 => ("VanPlaysModel", "lastHall", "[I", true)
  | 30 => ("VanPlaysModel", "lastNight", "[I", true)
  | 31 => ("VanPlaysModel", "run", "[I", true)
  | 32 => ("VanPlaysModel", "worthOf", "[I", true)
  | 33 => ("VanPlaysModel", "best", "[I", true)
  | 34 => ("VanPlaysModel", "gone", "[J", true)
  | 35 => ("VanPlaysModel", "terms", "[I", true)
  | 36 => ("VanPlaysModel", "token", "I", false)
  | 37 => ("VanPlaysModel", "at", "I", false)
  | 38 => ("VanPlaysModel", "number", "I", false)
  | 39 => ("VanPlaysModel", "fault", "I", false)
  | 40 => ("VanPlaysModel", "faultAt", "I", false)
  | 41 => ("VanPlaysModel", "told", "I", false)
  | _ => ("VanPlaysModel", "word", "J", false)
def tyX9 : Nat → FieldType := fun k => match k with
  | 0 => .int
  | 1 => .array .byte
  | 2 => .int
  | 3 => .int
  | 4 => .int
  | 5 => .array .int
  | 6 => .array .int
  | 7 => .array .int
  | 8 => .array .int
  | 9 => .array .int
  | 10 => .array .int
  | 11 => .array .int
  | 12 => .array .int
  | 13 => .array .int
  | 14 => .array .int
  | 15 => .array .int
  | 16 => .array .int
  | 17 => .array .int
  | 18 => .array .int
  | 19 => .array .int
  | 20 => .int
  | 21 => .int
  | 22 => .array .int
  | 23 => .array .int
  | 24 => .array .int
  | 25 => .array .int
  | 26 => .array .int
  | 27 => .array .int
  | 28 => .array .int
  | 29 => .array .int
  | 30 => .array .int
  | 31 => .array .int
  | 32 => .array .int
  | 33 => .array .int
  | 34 => .array .long
  | 35 => .array .int
  | 36 => .int
  | 37 => .int
  | 38 => .int
  | 39 => .int
  | 40 => .int
  | 41 => .int
  | _ => .long
abbrev wsX90 : List Cond := u_ws RX9 TX9 43
theorem nmX9 : ∀ a, a < 43 → ∀ b, b < 43 → a ≠ b → (TX9 a).2.1 ≠ (TX9 b).2.1 := by decide +kernel
theorem tyX9_ok : ∀ k, k < 43 → parseFieldDescriptor (TX9 k).2.2.1 = some (tyX9 k) := by decide +kernel
abbrev cX9_init : ByteArray := prog_11_method_1_code
def yX9_init : MethodName := ⟨RX9, "<init>", "()V"⟩
abbrev cX9_thrown : ByteArray := prog_11_method_2_code
def yX9_thrown : MethodName := ⟨RX9, "thrown", "()I"⟩
abbrev cX9_throwsIf : ByteArray := prog_11_method_3_code
def yX9_throwsIf : MethodName := ⟨RX9, "throwsIf", "(Z)Z"⟩
abbrev cX9_feed : ByteArray := prog_11_method_4_code
def yX9_feed : MethodName := ⟨RX9, "feed", "(IIIII)I"⟩
abbrev cX9_four : ByteArray := prog_11_method_5_code
def yX9_four : MethodName := ⟨RX9, "four", "(I)V"⟩
abbrev cX9_end : ByteArray := prog_11_method_6_code
def yX9_end : MethodName := ⟨RX9, "end", "(I)Z"⟩
abbrev cX9_taken : ByteArray := prog_11_method_7_code
def yX9_taken : MethodName := ⟨RX9, "taken", "()V"⟩
abbrev cX9_isIn : ByteArray := prog_11_method_8_code
def yX9_isIn : MethodName := ⟨RX9, "isIn", "(III)Z"⟩
abbrev cX9_isHall : ByteArray := prog_11_method_9_code
def yX9_isHall : MethodName := ⟨RX9, "isHall", "(I)Z"⟩
abbrev cX9_isShow : ByteArray := prog_11_method_10_code
def yX9_isShow : MethodName := ⟨RX9, "isShow", "(I)Z"⟩
abbrev cX9_areAmps : ByteArray := prog_11_method_11_code
def yX9_areAmps : MethodName := ⟨RX9, "areAmps", "(II)Z"⟩
abbrev cX9_wire : ByteArray := prog_11_method_12_code
def yX9_wire : MethodName := ⟨RX9, "wire", "(III)V"⟩
abbrev cX9_hall : ByteArray := prog_11_method_13_code
def yX9_hall : MethodName := ⟨RX9, "hall", "(IIII)I"⟩
abbrev cX9_rewire : ByteArray := prog_11_method_14_code
def yX9_rewire : MethodName := ⟨RX9, "rewire", "(III)Z"⟩
abbrev cX9_show : ByteArray := prog_11_method_15_code
def yX9_show : MethodName := ⟨RX9, "show", "(IIIIII)I"⟩
abbrev cX9_give : ByteArray := prog_11_method_16_code
def yX9_give : MethodName := ⟨RX9, "give", "(III)Z"⟩
abbrev cX9_plug : ByteArray := prog_11_method_17_code
def yX9_plug : MethodName := ⟨RX9, "plug", "(II)Z"⟩
abbrev cX9_fits : ByteArray := prog_11_method_18_code
def yX9_fits : MethodName := ⟨RX9, "fits", "(II)I"⟩
abbrev cX9_fit : ByteArray := prog_11_method_19_code
def yX9_fit : MethodName := ⟨RX9, "fit", "(II)I"⟩
abbrev cX9_plugged : ByteArray := prog_11_method_20_code
def yX9_plugged : MethodName := ⟨RX9, "plugged", "(III)I"⟩
abbrev cX9_lacks : ByteArray := prog_11_method_21_code
def yX9_lacks : MethodName := ⟨RX9, "lacks", "(II)I"⟩
abbrev cX9_milesOf : ByteArray := prog_11_method_22_code
def yX9_milesOf : MethodName := ⟨RX9, "milesOf", "(II)I"⟩
abbrev cX9_isFree : ByteArray := prog_11_method_23_code
def yX9_isFree : MethodName := ⟨RX9, "isFree", "(III)Z"⟩
abbrev cX9_wasThere : ByteArray := prog_11_method_24_code
def yX9_wasThere : MethodName := ⟨RX9, "wasThere", "(I)Z"⟩
abbrev cX9_book : ByteArray := prog_11_method_25_code
def yX9_book : MethodName := ⟨RX9, "book", "(I)I"⟩
abbrev cX9_stand : ByteArray := prog_11_method_26_code
def yX9_stand : MethodName := ⟨RX9, "stand", "(IIIIII)V"⟩
abbrev cX9_go : ByteArray := prog_11_method_27_code
def yX9_go : MethodName := ⟨RX9, "go", "(III)Z"⟩
abbrev cX9_rest : ByteArray := prog_11_method_28_code
def yX9_rest : MethodName := ⟨RX9, "rest", "(III)I"⟩
abbrev cX9_on : ByteArray := prog_11_method_29_code
def yX9_on : MethodName := ⟨RX9, "on", "(II)I"⟩
abbrev cX9_isLawful : ByteArray := prog_11_method_30_code
def yX9_isLawful : MethodName := ⟨RX9, "isLawful", "(I)Z"⟩
abbrev cX9_snow : ByteArray := prog_11_method_31_code
def yX9_snow : MethodName := ⟨RX9, "snow", "(II)I"⟩
abbrev cX9_worth : ByteArray := prog_11_method_32_code
def yX9_worth : MethodName := ⟨RX9, "worth", "(I)I"⟩
abbrev cX9_peek : ByteArray := prog_11_method_33_code
def yX9_peek : MethodName := ⟨RX9, "peek", "()I"⟩
abbrev cX9_isSmall : ByteArray := prog_11_method_34_code
def yX9_isSmall : MethodName := ⟨RX9, "isSmall", "(I)Z"⟩
abbrev cX9_isDigit : ByteArray := prog_11_method_35_code
def yX9_isDigit : MethodName := ⟨RX9, "isDigit", "(I)Z"⟩
abbrev cX9_next : ByteArray := prog_11_method_36_code
def yX9_next : MethodName := ⟨RX9, "next", "()V"⟩
abbrev cX9_wrong : ByteArray := prog_11_method_37_code
def yX9_wrong : MethodName := ⟨RX9, "wrong", "(II)Z"⟩
abbrev cX9_cant : ByteArray := prog_11_method_38_code
def yX9_cant : MethodName := ⟨RX9, "cant", "()Z"⟩
abbrev cX9_isWord : ByteArray := prog_11_method_39_code
def yX9_isWord : MethodName := ⟨RX9, "isWord", "(J)Z"⟩
abbrev cX9_terms : ByteArray := prog_11_method_40_code
def yX9_terms : MethodName := ⟨RX9, "terms", "(I)I"⟩
abbrev cX9_term : ByteArray := prog_11_method_41_code
def yX9_term : MethodName := ⟨RX9, "term", "()Z"⟩
abbrev cX9_behind : ByteArray := prog_11_method_42_code
def yX9_behind : MethodName := ⟨RX9, "behind", "(J)Z"⟩
abbrev cX9_take : ByteArray := prog_11_method_43_code
def yX9_take : MethodName := ⟨RX9, "take", "(III)Z"⟩
abbrev cX9_fault : ByteArray := prog_11_method_44_code
def yX9_fault : MethodName := ⟨RX9, "fault", "()I"⟩
abbrev cX9_door : ByteArray := prog_11_method_45_code
def yX9_door : MethodName := ⟨RX9, "door", "(III)Z"⟩
abbrev cX9_company : ByteArray := prog_11_method_46_code
def yX9_company : MethodName := ⟨RX9, "company", "(II)I"⟩
abbrev cX9_shareOf : ByteArray := prog_11_method_47_code
def yX9_shareOf : MethodName := ⟨RX9, "shareOf", "(III)I"⟩
abbrev cX9_shared : ByteArray := prog_11_method_48_code
def yX9_shared : MethodName := ⟨RX9, "shared", "(III)I"⟩
abbrev cX9_sum : ByteArray := prog_11_method_49_code
def yX9_sum : MethodName := ⟨RX9, "sum", "(I)I"⟩
abbrev cX9_keeps : ByteArray := prog_11_method_50_code
def yX9_keeps : MethodName := ⟨RX9, "keeps", "(I)I"⟩
abbrev cX9_count : ByteArray := prog_11_method_51_code
def yX9_count : MethodName := ⟨RX9, "count", "(I)I"⟩
def RJ6 : String := "java/lang/Integer"
abbrev cJ6_bitCount_0f7a4 : ByteArray := prog_13_method_49_code
def yJ6_bitCount_0f7a4 : MethodName := ⟨RJ6, "bitCount", "(I)I"⟩
def RJ9 : String := "java/lang/Math"
abbrev cJ9_abs_0f7a4 : ByteArray := prog_14_method_59_code
def yJ9_abs_0f7a4 : MethodName := ⟨RJ9, "abs", "(I)I"⟩
abbrev cJ9_max_7cf53 : ByteArray := prog_14_method_65_code
def yJ9_max_7cf53 : MethodName := ⟨RJ9, "max", "(II)I"⟩
abbrev cJ9_min_7cf53 : ByteArray := prog_14_method_69_code
def yJ9_min_7cf53 : MethodName := ⟨RJ9, "min", "(II)I"⟩
def RJ0 : String := "java/lang/String"
abbrev cJ0_length_8abf5 : ByteArray := prog_16_method_54_code
def yJ0_length_8abf5 : MethodName := ⟨RJ0, "length", "()I"⟩
abbrev cJ0_charAt_5068e : ByteArray := prog_16_method_56_code
def yJ0_charAt_5068e : MethodName := ⟨RJ0, "charAt", "(I)C"⟩
abbrev cJ0_coder_7d493 : ByteArray := prog_16_method_152_code
def yJ0_coder_7d493 : MethodName := ⟨RJ0, "coder", "()B"⟩
abbrev cJ0_isLatin1_aae02 : ByteArray := prog_16_method_154_code
def yJ0_isLatin1_aae02 : MethodName := ⟨RJ0, "isLatin1", "()Z"⟩
abbrev cJ0_checkIndex_df160 : ByteArray := prog_16_method_155_code
def yJ0_checkIndex_df160 : MethodName := ⟨RJ0, "checkIndex", "(II)V"⟩
def RJ1 : String := "java/lang/StringLatin1"
abbrev cJ1_charAt_3b067 : ByteArray := prog_17_method_2_code
def yJ1_charAt_3b067 : MethodName := ⟨RJ1, "charAt", "([BI)C"⟩
def RJ2 : String := "java/lang/StringUTF16"
abbrev cJ2_getChar_3b067 : ByteArray := prog_18_method_5_code
def yJ2_getChar_3b067 : MethodName := ⟨RJ2, "getChar", "([BI)C"⟩
abbrev cJ2_length_9d52b : ByteArray := prog_18_method_6_code
def yJ2_length_9d52b : MethodName := ⟨RJ2, "length", "([B)I"⟩
abbrev cJ2_charAt_3b067 : ByteArray := prog_18_method_83_code
def yJ2_charAt_3b067 : MethodName := ⟨RJ2, "charAt", "([BI)C"⟩
abbrev cJ2_checkIndex_2214a : ByteArray := prog_18_method_91_code
def yJ2_checkIndex_2214a : MethodName := ⟨RJ2, "checkIndex", "(I[B)V"⟩
def RJ10 : String := "java/lang/System"
def RJ7 : String := "java/util/Arrays"
abbrev cJ7_fill_53178 : ByteArray := prog_21_method_103_code
def yJ7_fill_53178 : MethodName := ⟨RJ7, "fill", "([II)V"⟩
def RJ3 : String := "jdk/internal/util/Preconditions"
abbrev cJ3_checkIndex_8e157 : ByteArray := prog_23_method_11_code
def yJ3_checkIndex_8e157 : MethodName := ⟨RJ3, "checkIndex", "(IILjava/util/function/BiFunction;)I"⟩
def RL : String := "VanPlaysLaw"
abbrev cL_shared : ByteArray := method_3_code
def yL_shared : MethodName := ⟨RL, "shared", "(LVanPlays;III[J)I"⟩
abbrev cL_keeps : ByteArray := method_4_code
def yL_keeps : MethodName := ⟨RL, "keeps", "(LVanPlays;I[J)I"⟩
abbrev cL_law : ByteArray := code
def yL_law : MethodName := ⟨RL, "law", "([I)Z"⟩
abbrev vwCl : List vw_C := [(RX0, TX0, 2), (RX1, TX1, 6), (RX2, TX2, 11), (RX3, TX3, 9), (RX4, TX4, 10), (RX5, TX5, 2), (RX6, TX6, 7), (RX7, TX7, 12), (RX8, TX8, 8), (RX9, TX9, 43)]
abbrev k_M : Type := MethodName × ByteArray × Nat × Option FieldType
def mX0_init : k_M := (yX0_init, cX0_init, 2, none)
def mX0_take : k_M := (yX0_take, cX0_take, 3, none)
def mX1_init : k_M := (yX1_init, cX1_init, 1, none)
def mX1_build : k_M := (yX1_build, cX1_build, 4, none)
def mX1_givenToOthers : k_M := (yX1_givenToOthers, cX1_givenToOthers, 4, (some .int))
def mX1_milesTo : k_M := (yX1_milesTo, cX1_milesTo, 2, (some .int))
def mX2_init : k_M := (yX2_init, cX2_init, 1, none)
def mX2_start : k_M := (yX2_start, cX2_start, 2, none)
def mX2_asksMore : k_M := (yX2_asksMore, cX2_asksMore, 1, (some .boolean))
def mX2_ask : k_M := (yX2_ask, cX2_ask, 6, none)
def mX2_close : k_M := (yX2_close, cX2_close, 2, none)
def mX2_bookBest : k_M := (yX2_bookBest, cX2_bookBest, 5, none)
def mX2_weigh : k_M := (yX2_weigh, cX2_weigh, 8, none)
def mX2_gainRested : k_M := (yX2_gainRested, cX2_gainRested, 7, (some .int))
def mX2_gainNextNight : k_M := (yX2_gainNextNight, cX2_gainNextNight, 7, (some .int))
def mX2_walk : k_M := (yX2_walk, cX2_walk, 9, none)
def mX2_mostPoints : k_M := (yX2_mostPoints, cX2_mostPoints, 3, (some .int))
def mX2_firstBringing : k_M := (yX2_firstBringing, cX2_firstBringing, 9, (some .int))
def mX2_has : k_M := (yX2_has, cX2_has, 2, (some .boolean))
def mX2_cell : k_M := (yX2_cell, cX2_cell, 4, (some .int))
def mX2_laterCell : k_M := (yX2_laterCell, cX2_laterCell, 3, (some .int))
def mX3_init : k_M := (yX3_init, cX3_init, 1, none)
def mX3_canPlug : k_M := (yX3_canPlug, cX3_canPlug, 3, (some .boolean))
def mX3_leastLack : k_M := (yX3_leastLack, cX3_leastLack, 3, (some .int))
def mX3_circuitOf : k_M := (yX3_circuitOf, cX3_circuitOf, 2, (some .int))
def mX3_lay : k_M := (yX3_lay, cX3_lay, 4, none)
def mX3_search : k_M := (yX3_search, cX3_search, 6, none)
def mX3_keep : k_M := (yX3_keep, cX3_keep, 2, none)
def mX3_lackAtLeast : k_M := (yX3_lackAtLeast, cX3_lackAtLeast, 5, (some .int))
def mX3_isLikeOneAhead : k_M := (yX3_isLikeOneAhead, cX3_isLikeOneAhead, 3, (some .boolean))
def mX4_init : k_M := (yX4_init, cX4_init, 1, none)
def mX4_build : k_M := (yX4_build, cX4_build, 4, none)
def mX4_plan : k_M := (yX4_plan, cX4_plan, 5, none)
def mX4_forgetTour : k_M := (yX4_forgetTour, cX4_forgetTour, 1, none)
def mX4_partOfDoor : k_M := (yX4_partOfDoor, cX4_partOfDoor, 4, (some .int))
def mX5_init : k_M := (yX5_init, cX5_init, 1, none)
def mX5_append : k_M := (yX5_append, cX5_append, 3, none)
def mX5_copyFrom : k_M := (yX5_copyFrom, cX5_copyFrom, 2, none)
def mX5_byteAt : k_M := (yX5_byteAt, cX5_byteAt, 2, (some .int))
def mX5_holdsAmps : k_M := (yX5_holdsAmps, cX5_holdsAmps, 4, (some .boolean))
def mX6_init : k_M := (yX6_init, cX6_init, 1, none)
def mX6_clear : k_M := (yX6_clear, cX6_clear, 1, none)
def mX6_copyFrom : k_M := (yX6_copyFrom, cX6_copyFrom, 2, none)
def mX6_companyHas : k_M := (yX6_companyHas, cX6_companyHas, 5, (some .int))
def mX6_schemeGives : k_M := (yX6_schemeGives, cX6_schemeGives, 4, (some .int))
def mX6_hallKeeps : k_M := (yX6_hallKeeps, cX6_hallKeeps, 2, (some .int))
def mX6_keptBeforeLoss : k_M := (yX6_keptBeforeLoss, cX6_keptBeforeLoss, 2, (some .int))
def mX6_subsidyOfFee : k_M := (yX6_subsidyOfFee, cX6_subsidyOfFee, 1, (some .int))
def mX7_init : k_M := (yX7_init, cX7_init, 1, none)
def mX7_readText : k_M := (yX7_readText, cX7_readText, 3, (some .boolean))
def mX7_start : k_M := (yX7_start, cX7_start, 2, none)
def mX7_readTerm : k_M := (yX7_readTerm, cX7_readTerm, 1, (some .boolean))
def mX7_readFee : k_M := (yX7_readFee, cX7_readFee, 1, (some .boolean))
def mX7_readShare : k_M := (yX7_readShare, cX7_readShare, 3, (some .boolean))
def mX7_readSubsidy : k_M := (yX7_readSubsidy, cX7_readSubsidy, 1, (some .boolean))
def mX7_readLoss : k_M := (yX7_readLoss, cX7_readLoss, 1, (some .boolean))
def mX7_readNumber : k_M := (yX7_readNumber, cX7_readNumber, 3, (some .boolean))
def mX7_readWord : k_M := (yX7_readWord, cX7_readWord, 2, (some .boolean))
def mX7_readStop : k_M := (yX7_readStop, cX7_readStop, 1, (some .boolean))
def mX7_refuseToken : k_M := (yX7_refuseToken, cX7_refuseToken, 1, (some .boolean))
def mX7_refuse : k_M := (yX7_refuse, cX7_refuse, 2, (some .boolean))
def mX7_nextToken : k_M := (yX7_nextToken, cX7_nextToken, 2, none)
def mX7_readRun : k_M := (yX7_readRun, cX7_readRun, 4, none)
def mX7_isWord : k_M := (yX7_isWord, cX7_isWord, 3, (some .boolean))
def mX7_isBlank : k_M := (yX7_isBlank, cX7_isBlank, 1, (some .boolean))
def mX7_isLetter : k_M := (yX7_isLetter, cX7_isLetter, 1, (some .boolean))
def mX7_isDigit : k_M := (yX7_isDigit, cX7_isDigit, 1, (some .boolean))
def mX8_init : k_M := (yX8_init, cX8_init, 2, none)
def mX8_feed : k_M := (yX8_feed, cX8_feed, 6, (some .int))
def mX8_end : k_M := (yX8_end, cX8_end, 2, (some .boolean))
def mX8_hall : k_M := (yX8_hall, cX8_hall, 7, (some .int))
def mX8_show : k_M := (yX8_show, cX8_show, 9, (some .int))
def mX8_rewire : k_M := (yX8_rewire, cX8_rewire, 5, (some .boolean))
def mX8_give : k_M := (yX8_give, cX8_give, 4, (some .boolean))
def mX8_fits : k_M := (yX8_fits, cX8_fits, 3, (some .int))
def mX8_plugged : k_M := (yX8_plugged, cX8_plugged, 4, (some .int))
def mX8_lacks : k_M := (yX8_lacks, cX8_lacks, 3, (some .int))
def mX8_book : k_M := (yX8_book, cX8_book, 3, (some .int))
def mX8_on : k_M := (yX8_on, cX8_on, 3, (some .int))
def mX8_snow : k_M := (yX8_snow, cX8_snow, 5, (some .int))
def mX8_worth : k_M := (yX8_worth, cX8_worth, 2, (some .int))
def mX8_terms : k_M := (yX8_terms, cX8_terms, 3, (some .int))
def mX8_fault : k_M := (yX8_fault, cX8_fault, 1, (some .int))
def mX8_door : k_M := (yX8_door, cX8_door, 4, (some .boolean))
def mX8_shared : k_M := (yX8_shared, cX8_shared, 4, (some .int))
def mX8_sum : k_M := (yX8_sum, cX8_sum, 5, (some .int))
def mX8_keeps : k_M := (yX8_keeps, cX8_keeps, 5, (some .int))
def mX8_count : k_M := (yX8_count, cX8_count, 2, (some .int))
def mX8_isWithin : k_M := (yX8_isWithin, cX8_isWithin, 3, (some .boolean))
def mX8_isSize : k_M := (yX8_isSize, cX8_isSize, 1, (some .boolean))
def mX8_isNight : k_M := (yX8_isNight, cX8_isNight, 1, (some .boolean))
def mX8_isHall : k_M := (yX8_isHall, cX8_isHall, 2, (some .boolean))
def mX8_isShow : k_M := (yX8_isShow, cX8_isShow, 2, (some .boolean))
def mX8_isHallBuild : k_M := (yX8_isHallBuild, cX8_isHallBuild, 3, (some .boolean))
def mX8_fitOf : k_M := (yX8_fitOf, cX8_fitOf, 3, (some .int))
def mX8_showAt : k_M := (yX8_showAt, cX8_showAt, 4, (some .int))
def mX8_closeTakenNights : k_M := (yX8_closeTakenNights, cX8_closeTakenNights, 3, none)
def mX8_worthOfTour : k_M := (yX8_worthOfTour, cX8_worthOfTour, 5, (some .int))
def mX8_nightsOnTours : k_M := (yX8_nightsOnTours, cX8_nightsOnTours, 4, (some .int))
def mX8_canMove : k_M := (yX8_canMove, cX8_canMove, 5, (some .boolean))
def mX8_keepsWaysAndRests : k_M := (yX8_keepsWaysAndRests, cX8_keepsWaysAndRests, 8, (some .boolean))
def mX9_init : k_M := (yX9_init, cX9_init, 1, none)
def mX9_thrown : k_M := (yX9_thrown, cX9_thrown, 1, (some .int))
def mX9_throwsIf : k_M := (yX9_throwsIf, cX9_throwsIf, 2, (some .boolean))
def mX9_feed : k_M := (yX9_feed, cX9_feed, 6, (some .int))
def mX9_four : k_M := (yX9_four, cX9_four, 3, none)
def mX9_end : k_M := (yX9_end, cX9_end, 2, (some .boolean))
def mX9_taken : k_M := (yX9_taken, cX9_taken, 1, none)
def mX9_isIn : k_M := (yX9_isIn, cX9_isIn, 3, (some .boolean))
def mX9_isHall : k_M := (yX9_isHall, cX9_isHall, 2, (some .boolean))
def mX9_isShow : k_M := (yX9_isShow, cX9_isShow, 2, (some .boolean))
def mX9_areAmps : k_M := (yX9_areAmps, cX9_areAmps, 4, (some .boolean))
def mX9_wire : k_M := (yX9_wire, cX9_wire, 5, none)
def mX9_hall : k_M := (yX9_hall, cX9_hall, 5, (some .int))
def mX9_rewire : k_M := (yX9_rewire, cX9_rewire, 4, (some .boolean))
def mX9_show : k_M := (yX9_show, cX9_show, 9, (some .int))
def mX9_give : k_M := (yX9_give, cX9_give, 6, (some .boolean))
def mX9_plug : k_M := (yX9_plug, cX9_plug, 5, (some .boolean))
def mX9_fits : k_M := (yX9_fits, cX9_fits, 3, (some .int))
def mX9_fit : k_M := (yX9_fit, cX9_fit, 3, (some .int))
def mX9_plugged : k_M := (yX9_plugged, cX9_plugged, 4, (some .int))
def mX9_lacks : k_M := (yX9_lacks, cX9_lacks, 9, (some .int))
def mX9_milesOf : k_M := (yX9_milesOf, cX9_milesOf, 5, (some .int))
def mX9_isFree : k_M := (yX9_isFree, cX9_isFree, 5, (some .boolean))
def mX9_wasThere : k_M := (yX9_wasThere, cX9_wasThere, 5, (some .boolean))
def mX9_book : k_M := (yX9_book, cX9_book, 6, (some .int))
def mX9_stand : k_M := (yX9_stand, cX9_stand, 7, none)
def mX9_go : k_M := (yX9_go, cX9_go, 7, (some .boolean))
def mX9_rest : k_M := (yX9_rest, cX9_rest, 6, (some .int))
def mX9_on : k_M := (yX9_on, cX9_on, 3, (some .int))
def mX9_isLawful : k_M := (yX9_isLawful, cX9_isLawful, 6, (some .boolean))
def mX9_snow : k_M := (yX9_snow, cX9_snow, 5, (some .int))
def mX9_worth : k_M := (yX9_worth, cX9_worth, 4, (some .int))
def mX9_peek : k_M := (yX9_peek, cX9_peek, 1, (some .int))
def mX9_isSmall : k_M := (yX9_isSmall, cX9_isSmall, 1, (some .boolean))
def mX9_isDigit : k_M := (yX9_isDigit, cX9_isDigit, 1, (some .boolean))
def mX9_next : k_M := (yX9_next, cX9_next, 5, none)
def mX9_wrong : k_M := (yX9_wrong, cX9_wrong, 3, (some .boolean))
def mX9_cant : k_M := (yX9_cant, cX9_cant, 1, (some .boolean))
def mX9_isWord : k_M := (yX9_isWord, cX9_isWord, 3, (some .boolean))
def mX9_terms : k_M := (yX9_terms, cX9_terms, 3, (some .int))
def mX9_term : k_M := (yX9_term, cX9_term, 5, (some .boolean))
def mX9_behind : k_M := (yX9_behind, cX9_behind, 3, (some .boolean))
def mX9_take : k_M := (yX9_take, cX9_take, 4, (some .boolean))
def mX9_fault : k_M := (yX9_fault, cX9_fault, 1, (some .int))
def mX9_door : k_M := (yX9_door, cX9_door, 4, (some .boolean))
def mX9_company : k_M := (yX9_company, cX9_company, 9, (some .int))
def mX9_shareOf : k_M := (yX9_shareOf, cX9_shareOf, 9, (some .int))
def mX9_shared : k_M := (yX9_shared, cX9_shared, 4, (some .int))
def mX9_sum : k_M := (yX9_sum, cX9_sum, 5, (some .int))
def mX9_keeps : k_M := (yX9_keeps, cX9_keeps, 5, (some .int))
def mX9_count : k_M := (yX9_count, cX9_count, 5, (some .int))
def mJ6_bitCount_0f7a4 : k_M := (yJ6_bitCount_0f7a4, cJ6_bitCount_0f7a4, 1, (some .int))
def mJ9_abs_0f7a4 : k_M := (yJ9_abs_0f7a4, cJ9_abs_0f7a4, 1, (some .int))
def mJ9_max_7cf53 : k_M := (yJ9_max_7cf53, cJ9_max_7cf53, 2, (some .int))
def mJ9_min_7cf53 : k_M := (yJ9_min_7cf53, cJ9_min_7cf53, 2, (some .int))
def mJ0_length_8abf5 : k_M := (yJ0_length_8abf5, cJ0_length_8abf5, 1, (some .int))
def mJ0_charAt_5068e : k_M := (yJ0_charAt_5068e, cJ0_charAt_5068e, 2, (some .char))
def mJ0_coder_7d493 : k_M := (yJ0_coder_7d493, cJ0_coder_7d493, 1, (some .byte))
def mJ0_isLatin1_aae02 : k_M := (yJ0_isLatin1_aae02, cJ0_isLatin1_aae02, 1, (some .boolean))
def mJ0_checkIndex_df160 : k_M := (yJ0_checkIndex_df160, cJ0_checkIndex_df160, 2, none)
def mJ1_charAt_3b067 : k_M := (yJ1_charAt_3b067, cJ1_charAt_3b067, 2, (some .char))
def mJ2_getChar_3b067 : k_M := (yJ2_getChar_3b067, cJ2_getChar_3b067, 2, (some .char))
def mJ2_length_9d52b : k_M := (yJ2_length_9d52b, cJ2_length_9d52b, 1, (some .int))
def mJ2_charAt_3b067 : k_M := (yJ2_charAt_3b067, cJ2_charAt_3b067, 2, (some .char))
def mJ2_checkIndex_2214a : k_M := (yJ2_checkIndex_2214a, cJ2_checkIndex_2214a, 2, none)
def mJ7_fill_53178 : k_M := (yJ7_fill_53178, cJ7_fill_53178, 4, none)
def mJ3_checkIndex_8e157 : k_M := (yJ3_checkIndex_8e157, cJ3_checkIndex_8e157, 3, (some .int))
def mL_shared : k_M := (yL_shared, cL_shared, 6, (some .int))
def mL_keeps : k_M := (yL_keeps, cL_keeps, 4, (some .int))
def mL_law : k_M := (yL_law, cL_law, 7, (some .boolean))
def k_ftab : List (List Nat) := [[1, 0], [1, 1, 0, 0, 0, 0], [1, 1, 1, 1, 1, 1, 0, 0, 0, 0, 0], [1, 1, 1, 1, 1, 1, 0, 0, 0], [1, 1, 1, 1, 0, 0, 0, 0, 0, 0], [1, 0], [1, 1, 0, 0, 0, 0, 0], [1, 0, 0, 0, 1, 0, 0, 0, 0, 0, 0, 0], [1, 1, 1, 1, 1, 1, 0, 0], [0, 1, 0, 0, 0, 1, 1, 1, 1, 1, 1, 1, 1, 1, 1, 1, 1, 1, 1, 1, 0, 0, 1, 1, 1, 1, 1, 1, 1, 1, 1, 1, 1, 1, 1, 1, 0, 0, 0, 0, 0, 0, 2]]
end
section
/-! the pure picture: values, heaps, how they stand for the machine's -/
abbrev k_V : Type := Nat × Int
abbrev k_H : Type := (Nat × Nat × Nat) × (Int → Nat × Nat) × (Int → Int → Int)
def k_N (A : k_H) : Nat := A.1.1
def k_U (A : k_H) : Nat := A.1.2.1
def k_T (A : k_H) : Nat := A.1.2.2
def k_kd (A : k_H) (a : Int) : Nat × Nat := A.2.1 a
def k_rd (A : k_H) (a i : Int) : Int := A.2.2 a i
def k_wt (A : k_H) (a i v : Int) : k_H := (A.1, A.2.1, fun b j => if b = a ∧ j = i then v else A.2.2 b j)
def k_etag (k : Nat) (i : Int) : Nat := if k < 20 then (k_ftab.getD k []).getD i.toNat 0 else if k = 22 then 2 else if k < 23 then 0 else 1
def k_dft (k : Nat) (i : Int) : Int := if k_etag k i = 1 then -1 else 0
def k_mk (A : k_H) (k len : Nat) : k_H := ((k_N A + 1, k_U A + 1, k_T A + len), (fun a => if a = (k_N A : Int) then (k, len) else A.2.1 a), fun a i => if a = (k_N A : Int) then k_dft k i else A.2.2 a i)
def k_wr (x : Int) : Int := (Int32.ofInt x).toInt
def k_wl (x : Int) : Int := (Int64.ofInt x).toInt
def k_orf (al : Int → Nat) (x : Int) : Option Nat := if x = -1 then none else some (al x)
def k_tv (al : Int → Nat) (v : k_V) : Value := match v.1 with
  | 0 => .int (Int32.ofInt v.2)
  | 1 => va_rf (k_orf al v.2)
  | _ => .long (Int64.ofInt v.2)
def k_cell (cy : Nat → ClassId) (al : Int → Nat) (k : Nat × Nat) (f : Int → Int) : va_E :=
  if k.1 < 20 then .inr (k.1, (List.range (k_ftab.getD k.1 []).length).map fun (i : Nat) => k_tv al (k_etag k.1 i, f i))
  else .inl (cy k.1, k.2, if k.1 = 22 then .inr (.inl fun (i : Nat) => Int64.ofInt (f i)) else if k.1 < 23 then .inl (fun (i : Nat) => Int32.ofInt (f i)) else .inr (.inr (.inr (.inr fun (i : Nat) => k_orf al (f i)))))
def k_ws (cy : Nat → ClassId) (al : Int → Nat) (A : k_H) : va_W := (List.range (k_N A)).map fun (a : Nat) => (al a, k_cell cy al (k_kd A a) (k_rd A a))
def k_TY (cy : Nat → ClassId) : List (ClassId × FieldType) := [(cy 20, .byte), (cy 21, .int), (cy 22, .long), (cy 23, .object RX1), (cy 24, .object RX4)]
/-- a value in its range -/
def k_gv (n : Nat) (v : k_V) : Prop := match v.1 with
  | 0 => -2147483648 ≤ v.2 ∧ v.2 < 2147483648
  | 1 => v.2 < n
  | 2 => -9223372036854775808 ≤ v.2 ∧ v.2 < 9223372036854775808
  | _ => True
def k_gl (n : Nat) (l : List k_V) : Prop := ∀ v ∈ l, k_gv n v
def k_gh (A : k_H) : Prop := ∀ a i : Int, 0 ≤ a → a < k_N A → k_gv (k_N A) (k_etag (k_kd A a).1 i, k_rd A a i)
theorem k_gv_mono {n m : Nat} (h : n ≤ m) {v : k_V} (g : k_gv n v) : k_gv m v := by
  obtain ⟨t, x⟩ := v
  match t, g with
  | 0, g => exact g
  | 1, g => exact Int.lt_of_lt_of_le (show x < (n : Int) from g) (Int.ofNat_le.mpr h)
  | 2, g => exact g
  | _ + 3, g => exact trivial
theorem k_gl_mono {n m : Nat} (h : n ≤ m) {l : List k_V} (g : k_gl n l) : k_gl m l := fun v hv => k_gv_mono h (g v hv)
theorem k_gl_cons {n : Nat} {v : k_V} {l : List k_V} : k_gl n (v :: l) ↔ k_gv n v ∧ k_gl n l := List.forall_mem_cons
theorem k_gl_nil {n : Nat} : k_gl n [] := fun _ h => absurd h List.not_mem_nil
theorem k_gl_app {n : Nat} {a b : List k_V} : k_gl n (a ++ b) ↔ k_gl n a ∧ k_gl n b := List.forall_mem_append
theorem k_gl_rev {n : Nat} {a : List k_V} : k_gl n a.reverse ↔ k_gl n a := by simp [k_gl]
theorem k_wr_range (x : Int) : -2147483648 ≤ k_wr x ∧ k_wr x < 2147483648 := ⟨Int32.le_toInt _, Int32.toInt_lt _⟩
theorem k_i32_range (x : Int32) : -2147483648 ≤ x.toInt ∧ x.toInt < 2147483648 := ⟨Int32.le_toInt _, Int32.toInt_lt _⟩
theorem k_i64_range (x : Int64) : -9223372036854775808 ≤ x.toInt ∧ x.toInt < 9223372036854775808 := ⟨Int64.le_toInt _, Int64.toInt_lt _⟩
theorem k_wr_of {x : Int} (h : -2147483648 ≤ x) (h2 : x < 2147483648) : k_wr x = x := Int32.toInt_ofInt_of_le h h2
theorem k_wl_of {x : Int} (h : -9223372036854775808 ≤ x) (h2 : x < 9223372036854775808) : k_wl x = x := Int64.toInt_ofInt_of_le h h2
theorem k_of_wr (x : Int) : Int32.ofInt (k_wr x) = Int32.ofInt x := Int32.ofInt_toInt _
theorem k_of_wl (x : Int) : Int64.ofInt (k_wl x) = Int64.ofInt x := Int64.ofInt_toInt _
/-- tv where the addresses agree -/
theorem k_tv_al {al al' : Int → Nat} {n : Nat} (h : ∀ a : Int, a < n → al' a = al a) {v : k_V} (g : k_gv n v) (hv : v.1 < 3) : k_tv al' v = k_tv al v := by
  obtain ⟨t, x⟩ := v
  match t, g, hv with
  | 0, _, _ => rfl
  | 1, g, _ =>
    show va_rf (k_orf al' x) = va_rf (k_orf al x)
    unfold k_orf
    rw [h x g]
  | 2, _, _ => rfl
theorem k_orf_al {al al' : Int → Nat} {n : Nat} (h : ∀ a : Int, a < n → al' a = al a) {x : Int} (g : x < n) : k_orf al' x = k_orf al x := by
  unfold k_orf
  rw [h x g]
theorem k_etag_lt (k : Nat) (i : Int) : k_etag k i < 3 := by
  unfold k_etag
  split
  · have h : ∀ k : Nat, k < 20 → ∀ x ∈ k_ftab.getD k [], x < 3 := by decide +kernel
    rename_i hk
    rw [List.getD_eq_getElem?_getD]
    cases hx : (k_ftab.getD k [])[i.toNat]? with
    | none => exact (by decide : 0 < 3)
    | some x => exact h k hk x (List.mem_of_getElem? hx)
  · split
    · decide
    · split
      · decide
      · decide
theorem k_cell_al {cy : Nat → ClassId} {al al' : Int → Nat} {n : Nat} (h : ∀ a : Int, a < n → al' a = al a) {k : Nat × Nat} {f : Int → Int} (g : ∀ i : Int, k_gv n (k_etag k.1 i, f i)) : k_cell cy al' k f = k_cell cy al k f := by
  unfold k_cell
  split
  · congr 2
    exact List.map_congr_left fun i _ => k_tv_al h (g i) (k_etag_lt _ _)
  · rename_i h20
    congr 3
    split
    · rfl
    · split
      · rfl
      · congr 4
        funext i
        unfold k_orf
        have e : k_etag k.1 i = 1 := by
          unfold k_etag
          rename_i h22 h23
          rw [if_neg h20, if_neg h22, if_neg h23]
        have g1 := g i
        rw [e] at g1
        rw [h (f i) g1]
theorem k_ws_al {cy : Nat → ClassId} {al al' : Int → Nat} {A : k_H} (h : ∀ a : Int, a < k_N A → al' a = al a) (g : k_gh A) : k_ws cy al' A = k_ws cy al A := by
  unfold k_ws
  refine List.map_congr_left fun a ha => ?_
  have ha := List.mem_range.mp ha
  rw [h a (by omega), k_cell_al h (fun i => g a i (by omega) (by omega))]
theorem k_ws_at {cy : Nat → ClassId} {al : Int → Nat} {A : k_H} {a : Int} (h0 : 0 ≤ a) (h : a < k_N A) : (k_ws cy al A)[a.toNat]? = some (al a, k_cell cy al (k_kd A a) (k_rd A a)) := by
  obtain ⟨b, rfl⟩ := Int.eq_ofNat_of_zero_le h0
  have hb : b < k_N A := by omega
  simp [k_ws, hb]
theorem k_ws_len {cy : Nat → ClassId} {al : Int → Nat} {A : k_H} : (k_ws cy al A).length = k_N A := by simp [k_ws]
/-- a write is a set of one row -/
theorem k_ws_wt {cy : Nat → ClassId} {al : Int → Nat} {A : k_H} {a i v : Int} (h0 : 0 ≤ a) : k_ws cy al (k_wt A a i v) = (k_ws cy al A).set a.toNat (al a, k_cell cy al (k_kd A a) (fun j => if j = i then v else k_rd A a j)) := by
  obtain ⟨b, rfl⟩ := Int.eq_ofNat_of_zero_le h0
  refine List.ext_getElem? fun n => ?_
  rw [List.getElem?_set]
  by_cases hn : n < k_N A
  · have e1 : (k_ws cy al (k_wt A b i v))[n]? = some (al n, k_cell cy al (k_kd A n) (k_rd (k_wt A b i v) n)) := by
      have : n < k_N (k_wt A b i v) := hn
      simp [k_ws, this]
      rfl
    rw [e1]
    by_cases hb : b = n
    · subst hb
      simp only [Int.toNat_natCast, if_true, k_ws_len, hn]
      have : k_rd (k_wt A b i v) b = fun j => if j = i then v else k_rd A b j := by
        funext j
        simp [k_rd, k_wt]
      rw [this]
    · have e2 : (k_ws cy al A)[n]? = some (al n, k_cell cy al (k_kd A n) (k_rd A n)) := by simp [k_ws, hn]
      have e3 : k_rd (k_wt A b i v) n = k_rd A n := by
        funext j
        have : ¬ ((n : Int) = b ∧ j = i) := by omega
        simp [k_rd, k_wt, this]
      rw [if_neg (by simpa using hb), e2, e3]
  · have e1 : (k_ws cy al (k_wt A b i v))[n]? = none := by
      rw [List.getElem?_eq_none]
      rw [k_ws_len]
      exact Nat.not_lt.mp hn
    have e2 : (k_ws cy al A)[n]? = none := by
      rw [List.getElem?_eq_none]
      rw [k_ws_len]
      exact Nat.not_lt.mp hn
    rw [e1, e2]
    split
    · rename_i hb
      rw [if_neg]
      rw [k_ws_len]
      simp at hb
      omega
    · rfl
/-- a new cell is a row more -/
theorem k_ws_mk {cy : Nat → ClassId} {al : Int → Nat} {A : k_H} {k len q : Nat} (g : k_gh A) : k_ws cy (fun a => if a = (k_N A : Int) then q else al a) (k_mk A k len) = k_ws cy al A ++ [(q, k_cell cy (fun a => if a = (k_N A : Int) then q else al a) (k, len) (k_dft k))] := by
  have hN : k_N (k_mk A k len) = k_N A + 1 := rfl
  unfold k_ws
  rw [hN, List.range_succ, List.map_append]
  congr 1
  · refine List.map_congr_left fun a ha => ?_
    have ha := List.mem_range.mp ha
    have e0 : ¬ ((a : Int) = (k_N A : Int)) := by omega
    have e1 : k_kd (k_mk A k len) a = k_kd A a := by simp [k_kd, k_mk, e0]
    have e2 : k_rd (k_mk A k len) a = k_rd A a := by funext i; simp [k_rd, k_mk, e0]
    rw [e1, e2]
    show ((if (a : Int) = (k_N A : Int) then q else al a), _) = _
    rw [if_neg e0]
    rw [k_cell_al (al := al) (n := k_N A) (fun b hb => by rw [if_neg (by omega)]) (fun i => g a i (by omega) (by omega))]
  · have e1 : k_kd (k_mk A k len) (k_N A) = (k, len) := by simp [k_kd, k_mk]
    have e2 : k_rd (k_mk A k len) (k_N A) = k_dft k := by funext i; simp [k_rd, k_mk]
    simp [e1, e2]
theorem k_dft_gv (n k : Nat) (i : Int) : k_gv n (k_etag k i, k_dft k i) := by
  unfold k_dft
  have := k_etag_lt k i
  match h : k_etag k i, this with
  | 0, _ => exact ⟨by decide, by decide⟩
  | 1, _ => show (-1 : Int) < n; omega
  | 2, _ => exact ⟨by decide, by decide⟩
theorem k_gh_mk {A : k_H} {k len : Nat} (g : k_gh A) : k_gh (k_mk A k len) := by
  intro a i h0 h1
  have hN : k_N (k_mk A k len) = k_N A + 1 := rfl
  rw [hN] at h1 ⊢
  by_cases e0 : a = (k_N A : Int)
  · have e1 : k_kd (k_mk A k len) a = (k, len) := by simp [k_kd, k_mk, e0]
    have e2 : k_rd (k_mk A k len) a i = k_dft k i := by simp [k_rd, k_mk, e0]
    rw [e1, e2]
    exact k_dft_gv _ _ _
  · have e1 : k_kd (k_mk A k len) a = k_kd A a := by simp [k_kd, k_mk, e0]
    have e2 : k_rd (k_mk A k len) a i = k_rd A a i := by simp [k_rd, k_mk, e0]
    rw [e1, e2]
    exact k_gv_mono (Nat.le_succ _) (g a i h0 (by omega))
theorem k_gh_wt {A : k_H} {a i v : Int} (g : k_gh A) (hv : k_gv (k_N A) (k_etag (k_kd A a).1 i, v)) : k_gh (k_wt A a i v) := by
  intro b j h0 h1
  show k_gv (k_N A) (k_etag (k_kd A b).1 j, if b = a ∧ j = i then v else k_rd A b j)
  split
  · rename_i h
    rw [h.1, h.2]
    exact hv
  · exact g b j h0 h1
end
section
/-! the walk over the pure picture: AW at a place of a method, AM of a whole method -/
def k_GW : List Cond := lw_tbl.filter goodWord
theorem k_gw {w : Cond} (h : w ∈ lw_tbl) (g : goodWord w = true) : w ∈ k_GW := List.mem_filter.mpr ⟨h, g⟩
theorem k_gt {w : Cond} (i : Nat) (h : tables_1[i]? = some w) (g : goodWord w = true) : w ∈ k_GW := k_gw (List.mem_append_right _ (List.mem_of_getElem? h)) g
theorem k_gp {w : Cond} (i : Nat) (h : (k2_sels lw_privs)[i]? = some w) (g : goodWord w = true) : w ∈ k_GW := k_gw (List.mem_append_left _ (List.mem_of_getElem? h)) g
def k_NW : List (String × Nat × MethodName × String) := [("VanPlays", 9, yX5_init, "VanPlays"), ("VanPlays", 30, yX3_init, "VanPlays"), ("VanPlays", 37, yX2_init, "VanPlays"), ("VanPlays", 44, yX7_init, "VanPlays"), ("VanPlays$TermsReader", 11, yX6_init, "VanPlays"), ("VanPlays$TermsReader", 20, yX5_init, "VanPlays"), ("VanPlays", 49, yX1_init, "VanPlays"), ("VanPlays$Show", 29, yX6_init, "VanPlays"), ("VanPlays$TermsReader", 138, yX8_isWithin, "VanPlays")]
def k_SR : List (String × Nat × String) := [("VanPlays$TermsReader", 68, "fee"), ("VanPlays$TermsReader", 77, "share"), ("VanPlays$TermsReader", 121, "above"), ("VanPlays$TermsReader", 82, "subsidy"), ("VanPlays$TermsReader", 127, "most"), ("VanPlays$TermsReader", 87, "loss"), ("VanPlays$TermsReader", 131, "both"), ("VanPlays$TermsReader", 136, "hall"), ("VanPlays", 209, "no such show, night or part"), ("VanPlays", 214, "no door was told"), ("VanPlays", 219, "no such hall")]
def k_sb : List (List Int32) := k_SR.map fun q => q.2.2.toList.map fun c => Int32.ofNat c.toNat
def k_sl : List Nat := k_sb.map List.length
/-- what the walk knows beside the words: nest links, classes of arrays, the script, the texts, a static -/
def k_EX (al : Int → Nat) (sc : Nat × (Nat → Int32)) (A0 : Nat → Prop) (U : State) : Prop :=
  (∀ q ∈ k_NW, va_Nw (.methodLinkNest q.1 q.2.1 q.2.2.1 q.2.2.2) U) ∧ va_AO RX1 U ∧ va_AO RX4 U ∧ (va_X (al (-2)) sc.1 sc.2 U U.heap ∧ al (-2) < U.heap.size ∧ ¬ A0 (al (-2))) ∧
  vk_S 11 k_sl k_sb (fun k => al (-10 - (k : Int))) (fun k => al (-40 - (k : Int))) A0 U U.heap ∧ (∀ (i : Nat) (q : String × Nat × String), k_SR[i]? = some q → vk_R q.1 q.2.1 q.2.2 (al (-10 - (i : Int))) U) ∧ va_Z "java/lang/String" "COMPACT_STRINGS" "Z" (.int 1) A0 U U.heap
theorem k_EX.move {al al' : Int → Nat} {sc : Nat × (Nat → Int32)} {A0 A1 : Nat → Prop} {s U : State} {H : Heap} {locs : List Loc} (h : k_EX al sc A0 s) (hal : ∀ a : Int, a < 0 → al' a = al a) (hS : va_S A0 s.heap H locs) (hU : U.heap = H) (hW : s.WarmedH U.vm) (hA : ∀ q, A1 q → A0 q) : k_EX al' sc A1 U := by
  obtain ⟨h1, h2, h3, ⟨h4, h5, h6⟩, h7, h8, h9⟩ := h
  have hal2 : (fun k : Nat => al' (-10 - (k : Int))) = fun k : Nat => al (-10 - (k : Int)) := funext fun k => hal _ (by omega)
  have hal3 : (fun k : Nat => al' (-40 - (k : Int))) = fun k : Nat => al (-40 - (k : Int)) := funext fun k => hal _ (by omega)
  refine ⟨fun q hq => (h1 q hq).warmM hW, h2.moved hW.alike, h3.moved hW.alike, ?_, ?_, fun i q hq => ?_, ?_⟩
  · rw [hal (-2) (by omega), hU]
    exact ⟨(h4.moved hW.alike).kept (hS.2.1 _ h5 h6), Nat.lt_of_lt_of_le h5 hS.1, fun z => h6 (hA _ z)⟩
  · rw [hal2, hal3, hU]
    exact ((h7.moved hW.alike).kept (fun a ha hn => hS.2.1 a ha hn)).narrow hA
  · rw [hal _ (by omega)]
    exact (h8 i q hq).warm hW
  · rw [hU]
    exact ((h9.moved hW.alike).kept (fun a ha hn => hS.2.1 a ha hn)).narrow hA
theorem k_EX.calling {al : Int → Nat} {sc : Nat × (Nat → Int32)} {A0 : Nat → Prop} {U : State} {g : JFrame} {mk : MethodId} {a : Array Value} (h : k_EX al sc A0 U) : k_EX al sc A0 (U.calling g mk a) := by
  obtain ⟨h1, h2, h3, ⟨h4, h5, h6⟩, h7, h8, h9⟩ := h
  exact ⟨fun q hq => va_Nw.same rfl (u := U) rfl (h1 q hq), h2.moved (Vm.Alike.refl U.vm), h3.moved (Vm.Alike.refl U.vm), ⟨h4.moved (Vm.Alike.refl U.vm), h5, h6⟩, h7.moved (Vm.Alike.refl U.vm), fun i q hq => (h8 i q hq).same rfl, h9.moved (Vm.Alike.refl U.vm)⟩
/-- the script in the picture -/
def k_sc (A : k_H) (sc : Nat × (Nat → Int32)) : Prop := k_kd A (-2) = (30, sc.1) ∧ ∀ j : Nat, j < sc.1 → k_rd A (-2) j = (sc.2 j).toInt
/-- the locals -/
def k_lo (al : Int → Nat) (nL : Nat) (ls : List k_V) (LS : Array Slot) : Prop := LS.size = nL ∧ lv_wf LS ∧ ∀ (k : Nat) (v : k_V), ls[k]? = some v → v.1 < 3 → LS[k]? = some (.val (k_tv al v))
def k_le (A B : k_H) : Prop := k_N A ≤ k_N B ∧ k_U A ≤ k_U B ∧ k_T A ≤ k_T B
theorem k_le_rf (A : k_H) : k_le A A := ⟨Nat.le_refl _, Nat.le_refl _, Nat.le_refl _⟩
theorem k_le_tr {A B C : k_H} (h : k_le A B) (g : k_le B C) : k_le A C := ⟨Nat.le_trans h.1 g.1, Nat.le_trans h.2.1 g.2.1, Nat.le_trans h.2.2 g.2.2⟩
/-- what stays over a method's walk -/
def k_Cx (d : Nat) (M : k_M) (p : Program) (R : Room) (s : State) (m : MethodId) (args : Array Value) (meth : Method) (c : Code) (D : va_G) (cy : Nat → ClassId) (A0 : Nat → Prop) (al0 : Int → Nat) (sc : Nat × (Nat → Int32)) : Prop :=
  p.tables.exec = Jvm.exec ∧ c.code = M.2.1 ∧ c.maxLocals = M.2.2.1 ∧ meth.sig.returnType = M.2.2.2 ∧ s.vm.findClass M.1.cls = some m.cls ∧ (∀ w ∈ k_GW, w.before args s = true) ∧ meth.locks = false ∧ meth.name = M.1.name ∧ va_K D vwCl (k_TY cy) s ∧ (∀ q, s.heap.size ≤ q → A0 q) ∧ d ≤ R.frames ∧ 50 * d ≤ R.locals ∧ k_EX al0 sc A0 s
/-- what moves -/
def k_Dy (s : State) (D : va_G) (cy : Nat → ClassId) (A0 : Nat → Prop) (al0 : Int → Nat) (sc : Nat × (Nat → Int32)) (o : Nat × Nat × Nat) (al : Int → Nat) (A : k_H) (H : Heap) (locs : List Loc) (cells slots : Nat) : Prop :=
  va_P D vwCl (k_ws cy al A) H ∧ va_D A0 (k_ws cy al A) ∧ va_S A0 s.heap H locs ∧ k_gh A ∧ k_sc A sc ∧ (cells + o.2.1 = k_U A ∧ slots + o.2.2 = k_T A) ∧ o.1 ≤ k_N A ∧ ∀ a : Int, a < o.1 → al a = al0 a
def k_Rm (R : Room) (o : Nat × Nat × Nat) (A : k_H) : Prop := k_U A ≤ R.cells + o.2.1 ∧ k_T A ≤ R.slots + o.2.2
/-- at a return -/
def k_Rt (M : k_M) (pc : Nat) (st : List Value) (r : Int) : Prop :=
  (M.2.2.2 = none ∧ decode M.2.1 pc = .ok (.return_, 1) ∧ st = [] ∧ r = 0) ∨ ∃ ty : FieldType, M.2.2.2 = some ty ∧ decode M.2.1 pc = .ok (.ireturn, 1) ∧ st = [.int (Int32.ofInt r)] ∧ narrow ty (.int (Int32.ofInt r)) = .int (Int32.ofInt r) ∧ k_gv 0 (0, r)
def k_Fin (M : k_M) (p : Program) (l : Launch) (e : Env) (R : Room) (s : State) (m : MethodId) (args : Array Value) (below : List Frame) (meth : Method) (c : Code) (Q : State → Prop) (D : va_G) (cy : Nat → ClassId) (A0 : Nat → Prop) (al0 : Int → Nat) (sc : Nat × (Nat → Int32)) (o : Nat × Nat × Nat) (r : Int) (A' : k_H) : Prop :=
  ∀ (al : Int → Nat) (H : Heap) (locs : List Loc) (cells slots pc : Nat) (LS : Array Slot) (st : List Value), k_Dy s D cy A0 al0 sc o al A' H locs cells slots → k_Rt M pc st r → W p l e R s m args below meth c H locs cells slots Q (F0 m pc LS st)
def k_AW (d : Nat) (M : k_M) (pc : Nat) (ls st : List k_V) (A : k_H) (r : Int) (A' : k_H) : Prop :=
  k_le A A' ∧ ∀ (p : Program) (l : Launch) (e : Env) (R : Room) (s : State) (m : MethodId) (args : Array Value) (below : List Frame) (meth : Method) (c : Code) (Q : State → Prop) (D : va_G) (cy : Nat → ClassId) (A0 : Nat → Prop) (al0 : Int → Nat) (sc : Nat × (Nat → Int32)) (o : Nat × Nat × Nat) (al : Int → Nat) (H : Heap) (locs : List Loc) (cells slots : Nat) (LS : Array Slot),
    k_Cx d M p R s m args meth c D cy A0 al0 sc → k_Rm R o A' → k_Fin M p l e R s m args below meth c Q D cy A0 al0 sc o r A' → k_Dy s D cy A0 al0 sc o al A H locs cells slots → k_lo al M.2.2.1 ls LS → k_gl (k_N A) ls → k_gl (k_N A) st →
    W p l e R s m args below meth c H locs cells slots Q (F0 m pc LS (st.map (k_tv al)))
/-- a method's answer as the machine has it -/
def k_rv (M : k_M) (r : Int) : Option Value := M.2.2.2.map fun _ => .int (Int32.ofInt r)
def k_Pc (as : List k_V) (A : k_H) (D : va_G) (cy : Nat → ClassId) (al0 : Int → Nat) (sc : Nat × (Nat → Int32)) (sz : Nat) : Array Value → State → Prop := fun v U =>
  v = (as.map (k_tv al0)).toArray ∧ U.heap.size = sz ∧ va_P D vwCl (k_ws cy al0 A) U.heap ∧ va_D (fun _ => True) (k_ws cy al0 A) ∧ va_K D vwCl (k_TY cy) U ∧ k_gh A ∧ k_gl (k_N A) as ∧ k_sc A sc ∧ k_EX al0 sc (va_A (k_ws cy al0 A) sz) U
def k_Qc (M : k_M) (A : k_H) (D : va_G) (cy : Nat → ClassId) (al0 : Int → Nat) (sc : Nat × (Nat → Int32)) (sz : Nat) (r : Int) (A1 : k_H) : Array Value → State → Outcome → State → Prop := fun _ st oc t =>
  (∃ al : Int → Nat, (∀ a : Int, a < k_N A → al a = al0 a) ∧ oc = .returned (k_rv M r) ∧ va_P D vwCl (k_ws cy al A1) t.heap ∧ va_D (va_A (k_ws cy al0 A) sz) (k_ws cy al A1) ∧ k_gh A1 ∧ k_sc A1 sc ∧ k_gv 0 (0, r)) ∧ va_F (va_A (k_ws cy al0 A) sz) st t
def k_AM (d : Nat) (M : k_M) (as : List k_V) (A : k_H) (r : Int) (A1 : k_H) : Prop :=
  k_le A A1 ∧ ∀ (l : Launch) (D : va_G) (cy : Nat → ClassId) (al0 : Int → Nat) (sc : Nat × (Nat → Int32)) (sz : Nat),
    Met l M.1 (.code M.1 M.2.1 M.2.2.1 M.2.2.2 :: k_GW) { frames := d, cells := k_U A1 - k_U A, slots := k_T A1 - k_T A, locals := 50 * d } (k_Pc as A D cy al0 sc sz) (k_Qc M A D cy al0 sc sz r A1) (k_U A1 - k_U A) (k_T A1 - k_T A) (va_A (k_ws cy al0 A) sz)
/-- the locals at the entry -/
def k_en : List k_V → List k_V
  | [] => []
  | v :: l => if v.1 = 2 then v :: (3, 0) :: k_en l else v :: k_en l
theorem k_cat (al : Int → Nat) (v : k_V) (h : v.1 < 3) : (k_tv al v).category = if v.1 = 2 then 2 else 1 := by
  obtain ⟨t, x⟩ := v
  match t, h with
  | 0, _ => rfl
  | 1, _ =>
    show (va_rf (k_orf al x)).category = 1
    cases k_orf al x <;> rfl
  | 2, _ => rfl
theorem k_en_args (al : Int → Nat) : ∀ (as : List k_V), (∀ v ∈ as, v.1 < 3) → ∀ (i k : Nat) (v : k_V), (k_en as)[k]? = some v → v.1 < 3 → (i + k, k_tv al v) ∈ lv_args i (as.map (k_tv al)) := by
  intro as
  induction as with
  | nil => intro _ i k v h; simp [k_en] at h
  | cons a l ih =>
    intro hs i k v h hv
    have ha : a.1 < 3 := hs a List.mem_cons_self
    have ih := ih (fun v hv => hs v (List.mem_cons_of_mem _ hv))
    rw [List.map_cons, lv_args, k_cat al a ha]
    unfold k_en at h
    by_cases h2 : a.1 = 2
    · rw [if_pos h2] at h
      rw [if_pos h2, if_pos rfl]
      match k, h with
      | 0, h => cases h; exact List.mem_cons_self
      | 1, h => cases h; omega
      | k + 2, h =>
        have := ih (i + 2) k v h hv
        rw [show i + (k + 2) = i + 2 + k by omega]
        exact List.mem_cons_of_mem _ this
    · rw [if_neg h2] at h
      rw [if_neg h2, if_neg (by decide)]
      match k, h with
      | 0, h => cases h; exact List.mem_cons_self
      | k + 1, h =>
        have := ih (i + 1) k v h hv
        rw [show i + (k + 1) = i + 1 + k by omega]
        exact List.mem_cons_of_mem _ this
theorem k_en_len (al : Int → Nat) : ∀ (as : List k_V), (∀ v ∈ as, v.1 < 3) → (lg_sl (as.map (k_tv al))).length = (k_en as).length := by
  intro as
  induction as with
  | nil => intro _; rfl
  | cons a l ih =>
    intro hs
    have ha : a.1 < 3 := hs a List.mem_cons_self
    have ih := ih (fun v hv => hs v (List.mem_cons_of_mem _ hv))
    rw [List.map_cons]
    have : lg_sl (k_tv al a :: l.map (k_tv al)) = (if (k_tv al a).category = 2 then [.val (k_tv al a), .second] else [.val (k_tv al a)]) ++ lg_sl (l.map (k_tv al)) := by simp [lg_sl]
    have e : k_en (a :: l) = if a.1 = 2 then a :: (3, 0) :: k_en l else a :: k_en l := rfl
    rw [this, List.length_append, ih, k_cat al a ha, e]
    by_cases h2 : a.1 = 2
    · rw [if_pos h2, if_pos h2, if_pos rfl]
      simp only [List.length_cons, List.length_nil]
      omega
    · rw [if_neg h2, if_neg h2, if_neg (by decide)]
      simp only [List.length_cons, List.length_nil]
      omega
/-- fewer known locals -/
theorem k_lo_sub {al : Int → Nat} {nL : Nat} {ls ls' : List k_V} {LS : Array Slot} (h : k_lo al nL ls LS) (hs : ∀ (k : Nat) (v : k_V), ls'[k]? = some v → v.1 < 3 → ls[k]? = some v) : k_lo al nL ls' LS := ⟨h.1, h.2.1, fun k v hk hv => h.2.2 k v (hs k v hk hv) hv⟩
theorem k_lo_al {al al' : Int → Nat} {n nL : Nat} {ls : List k_V} {LS : Array Slot} (h : k_lo al nL ls LS) (ha : ∀ a : Int, a < n → al' a = al a) (g : k_gl n ls) : k_lo al' nL ls LS := ⟨h.1, h.2.1, fun k v hk hv => by rw [k_tv_al ha (g v (List.mem_of_getElem? hk)) hv]; exact h.2.2 k v hk hv⟩
theorem k_st_al {al al' : Int → Nat} {n : Nat} {st : List k_V} (ha : ∀ a : Int, a < n → al' a = al a) (g : k_gl n st) (ht : ∀ v ∈ st, v.1 < 3) : st.map (k_tv al') = st.map (k_tv al) := List.map_congr_left fun v hv => k_tv_al ha (g v hv) (ht v hv)
set_option maxHeartbeats 4000000 in
/-- a method out of its body -/
theorem k_AM_of {d : Nat} {M : k_M} {as ls : List k_V} {A : k_H} {r : Int} {A1 : k_H} (hp : plainName M.1.cls = true) (ht : ∀ v ∈ as, v.1 < 3) (hl : (k_en as).length ≤ M.2.2.1) (hls : ∀ (k : Nat) (v : k_V), ls[k]? = some v → v.1 < 3 → (k_en as)[k]? = some v) (hg : k_gl (k_N A) as → k_gl (k_N A) ls) (h : k_AW d M 0 ls [] A r A1) : k_AM d M as A r A1 := by
  refine ⟨h.1, fun l D cy al0 sc sz => ?_⟩
  refine Met.ofW (cc := M.2.1) (maxL := M.2.2.1) (ret := M.2.2.2) hp rfl ?_
  intro p e s m args below meth c s₁ B hml hv
  obtain ⟨rfl, hsz, hP, hD, hK, gh, ga, hsc, hEX⟩ := hv
  subst hsz
  have hts := atoms_spec (ws := .code M.1 M.2.1 M.2.2.1 M.2.2.2 :: k_GW) B.pre
  have hC : k_Cx d M p { frames := d, cells := k_U A1 - k_U A, slots := k_T A1 - k_T A, locals := 50 * d } s m (as.map (k_tv al0)).toArray meth c D cy (va_A (k_ws cy al0 A) s.heap.size) al0 sc :=
    ⟨B.exec, B.bytes, hml, B.returns, findClass_of_methodNamed B.named, fun w hw => hts w (List.mem_cons_of_mem _ hw), B.notSynchronized, (name_of_methodNamed B.named B.method).1, hK, fun q hq => Or.inr hq, Nat.le_refl _, Nat.le_refl _, hEX⟩
  have hlen := k_en_len al0 as ht
  rw [lg_entry_eq]
  have hl0 := lv_entry (as.map (k_tv al0)) (n := M.2.2.1) (by rw [hlen]; exact hl)
  refine h.2 p l e _ s m _ below meth c _ D cy (va_A (k_ws cy al0 A) s.heap.size) al0 sc (k_N A, k_U A, k_T A) al0 s.heap [] 0 0 _ hC ⟨?_, ?_⟩ ?_ ⟨hP, hD.self, va_S.rf, gh, hsc, ⟨Nat.zero_add _, Nat.zero_add _⟩, Nat.le_refl _, fun _ _ => rfl⟩ ⟨hl0.1, hl0.2.1, fun k v hk hv => ?_⟩ (hg ga) k_gl_nil
  · show k_U A1 ≤ k_U A1 - k_U A + k_U A
    omega
  · show k_T A1 ≤ k_T A1 - k_T A + k_T A
    omega
  · intro al H locs cells slots pc LS st Y hr
    obtain ⟨yP, yD, yS, yg, ysc, ⟨yc, ys⟩, yn, ya⟩ := Y
    have ec : cells = k_U A1 - k_U A := by
      have : cells + k_U A = k_U A1 := yc
      omega
    have es : slots = k_T A1 - k_T A := by
      have : slots + k_T A = k_T A1 := ys
      omega
    subst ec; subst es
    rcases hr with ⟨h1, h2, rfl, rfl⟩ | ⟨ty, h1, h2, rfl, h4, h5⟩
    · refine W.vret B.exec B.bytes (by rw [B.returns, h1]) (fun t ht hW => ⟨⟨al, ya, ?_, by rw [ht]; exact yP, yD, yg, ysc, ⟨by decide, by decide⟩⟩, yS.F ht⟩) yS.2.2 h2 B.notSynchronized
      unfold k_rv; rw [h1]; rfl
    · refine W.zret (ty := ty) B.exec B.bytes (by rw [B.returns, h1]) h4 (fun t ht hW => ⟨⟨al, ya, ?_, by rw [ht]; exact yP, yD, yg, ysc, h5⟩, yS.F ht⟩) yS.2.2 h2 B.notSynchronized
      unfold k_rv; rw [h1]; rfl
  · have hk2 := hls k v hk hv
    have := hl0.2.2 _ (k_en_args al0 as ht 0 k v hk2 hv)
    simpa using this
end
section
def k_c16 (x : Int) : Int := ((Int32.ofInt x).toUInt32 % 65536).toInt32.toInt
def k_b8 (x : Int) : Int := (Int32.ofInt x).toInt8.toInt32.toInt
def k_lshr (x y : Int) : Int := (Int64.ofInt x >>> ((Int32.ofInt y).toInt64 &&& 63)).toInt
def k_lshl (x y : Int) : Int := (Int64.ofInt x <<< ((Int32.ofInt y).toInt64 &&& 63)).toInt
def k_ushr (x y : Int) : Int := ((Int32.ofInt x).toUInt32 >>> ((Int32.ofInt y).toUInt32 &&& Int32.toUInt32 31)).toInt32.toInt
def k_lorr (x y : Int) : Int := (Int64.ofInt x ||| Int64.ofInt y).toInt
def k_landd (x y : Int) : Int := (Int64.ofInt x &&& Int64.ofInt y).toInt
def k_shr (x y : Int) : Int := (Int32.ofInt x >>> (Int32.ofInt y &&& 31)).toInt
def k_shl (x y : Int) : Int := (Int32.ofInt x <<< (Int32.ofInt y &&& 31)).toInt
def k_or (x y : Int) : Int := (Int32.ofInt x ||| Int32.ofInt y).toInt
def k_and (x y : Int) : Int := (Int32.ofInt x &&& Int32.ofInt y).toInt
/-! rules of single instructions, stack and locals -/
/-- an instruction that leaves heap and locals -/
theorem k_pure {d : Nat} {M : k_M} {pc pc' : Nat} {ls st st' : List k_V} {A : k_H} {r : Int} {A' : k_H} (k : k_AW d M pc' ls st' A r A')
    (h : ∀ {p : Program} {l : Launch} {e : Env} {R : Room} {s : State} {m : MethodId} {args : Array Value} {below : List Frame} {meth : Method} {c : Code} {H : Heap} {locs : List Loc} {cells slots : Nat} {Q : State → Prop} {LS : Array Slot} (al : Int → Nat), p.tables.exec = Jvm.exec → c.code = M.2.1 → k_lo al M.2.2.1 ls LS → k_gl (k_N A) ls → k_gl (k_N A) st → W p l e R s m args below meth c H locs cells slots Q (F0 m pc' LS (st'.map (k_tv al))) → W p l e R s m args below meth c H locs cells slots Q (F0 m pc LS (st.map (k_tv al))))
    (hg : k_gl (k_N A) ls → k_gl (k_N A) st → k_gl (k_N A) st') : k_AW d M pc ls st A r A' :=
  ⟨k.1, fun p l e R s m args below meth c Q D cy A0 al0 sc ob al H locs cells slots LS C G F Y L gl gs => h al C.1 C.2.1 L gl gs (k.2 p l e R s m args below meth c Q D cy A0 al0 sc ob al H locs cells slots LS C G F Y L gl (hg gl gs))⟩
/-- fewer known locals, other names of the same -/
theorem k_sub {d : Nat} {M : k_M} {pc : Nat} {ls ls' st : List k_V} {A : k_H} {r : Int} {A' : k_H} (hs : ∀ (k : Nat) (v : k_V), ls'[k]? = some v → v.1 < 3 → ls[k]? = some v) (k : k_AW d M pc ls' st A r A') : k_AW d M pc ls st A r A' :=
  ⟨k.1, fun p l e R s m args below meth c Q D cy A0 al0 sc ob al H locs cells slots LS C G F Y L gl gs => k.2 p l e R s m args below meth c Q D cy A0 al0 sc ob al H locs cells slots LS C G F Y (k_lo_sub L hs) (fun v hv => by
    by_cases h3 : v.1 < 3
    · obtain ⟨i, hi⟩ := List.getElem?_of_mem hv
      exact gl v (List.mem_of_getElem? (hs i v hi h3))
    · obtain ⟨t, x⟩ := v
      match t, h3 with
      | t + 3, _ => exact trivial
      | 0, h3 => exact absurd (by show 0 < 3; decide) h3
      | 1, h3 => exact absurd (by show 1 < 3; decide) h3
      | 2, h3 => exact absurd (by show 2 < 3; decide) h3) gs⟩
def k_sbl : List k_V → List k_V → Prop
  | [], _ => True
  | b :: l', a :: l => (b.1 = 3 ∨ a = b) ∧ k_sbl l' l
  | b :: l', [] => b.1 = 3 ∧ k_sbl l' []
theorem k_sbl_ok : ∀ (l' l : List k_V), k_sbl l' l → ∀ (k : Nat) (v : k_V), l'[k]? = some v → v.1 < 3 → l[k]? = some v := by
  intro l'
  induction l' with
  | nil => intro l _ k v h; simp at h
  | cons b l' ih =>
    intro l hs k v h hv
    cases l with
    | nil =>
      cases k with
      | zero => cases h; have := hs.1; omega
      | succ k => have := ih [] hs.2 k v h hv; simp at this
    | cons a l =>
      cases k with
      | zero =>
        cases h
        rcases hs.1 with h1 | h1
        · omega
        · rw [h1]; rfl
      | succ k => exact ih l hs.2 k v h hv
/-- numbers -/
theorem k_i0 {n : Nat} {x : Int} (g : k_gv n (0, x)) : (Int32.ofInt x).toInt = x := Int32.toInt_ofInt_of_le g.1 g.2
theorem k_l0 {n : Nat} {x : Int} (g : k_gv n (2, x)) : (Int64.ofInt x).toInt = x := Int64.toInt_ofInt_of_le g.1 g.2
theorem k_ilt {n : Nat} {x y : Int} (gx : k_gv n (0, x)) (gy : k_gv n (0, y)) : Int32.ofInt x < Int32.ofInt y ↔ x < y := by rw [Int32.lt_iff_toInt_lt, k_i0 gx, k_i0 gy]
theorem k_ile {n : Nat} {x y : Int} (gx : k_gv n (0, x)) (gy : k_gv n (0, y)) : Int32.ofInt x ≤ Int32.ofInt y ↔ x ≤ y := by rw [Int32.le_iff_toInt_le, k_i0 gx, k_i0 gy]
theorem k_ieq {n : Nat} {x y : Int} (gx : k_gv n (0, x)) (gy : k_gv n (0, y)) : Int32.ofInt x = Int32.ofInt y ↔ x = y := by rw [← Int32.toInt_inj, k_i0 gx, k_i0 gy]
theorem k_g00 (n : Nat) : k_gv n (0, 0) := ⟨by decide, by decide⟩
theorem k_gi (n : Nat) (x : Int32) : k_gv n (0, x.toInt) := k_i32_range x
theorem k_gl64 (n : Nat) (x : Int64) : k_gv n (2, x.toInt) := k_i64_range x
def k_ch (x y : Int32) : Int32 := x
section
variable {d : Nat} {M : k_M} {pc : Nat} {ls st : List k_V} {A : k_H} {r : Int} {A' : k_H}
theorem k_iconst {n : Int} (hd : decode M.2.1 pc = .ok (.iconst n, 1)) (hn : -2147483648 ≤ n ∧ n < 2147483648) (k : k_AW d M (pc + 1) ls ((0, n) :: st) A r A') : k_AW d M pc ls st A r A' :=
  k_pure k (fun al hx hb _ _ _ k => lv_iconst hx hb hd rfl k) (fun _ g => k_gl_cons.mpr ⟨hn, g⟩)
theorem k_bipush {n : Int} (hd : decode M.2.1 pc = .ok (.bipush n, 2)) (hn : -2147483648 ≤ n ∧ n < 2147483648) (he : (Int8.ofInt n).toInt32 = Int32.ofInt n) (k : k_AW d M (pc + 2) ls ((0, n) :: st) A r A') : k_AW d M pc ls st A r A' :=
  k_pure k (fun al hx hb _ _ _ k => lv_bipush hx hb hd he k) (fun _ g => k_gl_cons.mpr ⟨hn, g⟩)
theorem k_sipush {n : Int} (hd : decode M.2.1 pc = .ok (.sipush n, 3)) (hn : -2147483648 ≤ n ∧ n < 2147483648) (he : (Int16.ofInt n).toInt32 = Int32.ofInt n) (k : k_AW d M (pc + 3) ls ((0, n) :: st) A r A') : k_AW d M pc ls st A r A' :=
  k_pure k (fun al hx hb _ _ _ k => lv_sipush hx hb hd he k) (fun _ g => k_gl_cons.mpr ⟨hn, g⟩)
theorem k_lconst {n : Fin 2} {z : Int} (hd : decode M.2.1 pc = .ok (.lconst n, 1)) (hz : Int64.ofNat (n : Nat) = Int64.ofInt z) (hn : -9223372036854775808 ≤ z ∧ z < 9223372036854775808) (k : k_AW d M (pc + 1) ls ((2, z) :: st) A r A') : k_AW d M pc ls st A r A' :=
  k_pure k (fun al hx hb _ _ _ k => lv_lconst hx hb hd hz k) (fun _ g => k_gl_cons.mpr ⟨hn, g⟩)
theorem k_ldci {n : Int} {i : Nat} (hd : decode M.2.1 pc = .ok (.ldc i, 2)) (hw : Cond.constant M.1.cls i (Int32.ofInt n) ∈ k_GW) (hn : -2147483648 ≤ n ∧ n < 2147483648) (k : k_AW d M (pc + 2) ls ((0, n) :: st) A r A') : k_AW d M pc ls st A r A' :=
  ⟨k.1, fun p l e R s m args below meth c Q D cy A0 al0 sc ob al H locs cells slots LS C G F Y L gl gs => lv_ldc C.1 C.2.1 C.2.2.2.2.1 (C.2.2.2.2.2.1 _ hw) hd (k.2 p l e R s m args below meth c Q D cy A0 al0 sc ob al H locs cells slots LS C G F Y L gl (k_gl_cons.mpr ⟨hn, gs⟩))⟩
theorem k_ldcw {n : Int} {i : Nat} (hd : decode M.2.1 pc = .ok (.ldc_w i, 3)) (hw : Cond.constant M.1.cls i (Int32.ofInt n) ∈ k_GW) (hn : -2147483648 ≤ n ∧ n < 2147483648) (k : k_AW d M (pc + 3) ls ((0, n) :: st) A r A') : k_AW d M pc ls st A r A' :=
  ⟨k.1, fun p l e R s m args below meth c Q D cy A0 al0 sc ob al H locs cells slots LS C G F Y L gl gs => lv_ldcw C.1 C.2.1 C.2.2.2.2.1 (C.2.2.2.2.2.1 _ hw) hd (k.2 p l e R s m args below meth c Q D cy A0 al0 sc ob al H locs cells slots LS C G F Y L gl (k_gl_cons.mpr ⟨hn, gs⟩))⟩
theorem k_ldc2 {n : Int} {i : Nat} (hd : decode M.2.1 pc = .ok (.ldc2_w i, 3)) (hw : Cond.constantLong M.1.cls i (Int64.ofInt n) ∈ k_GW) (hn : -9223372036854775808 ≤ n ∧ n < 9223372036854775808) (k : k_AW d M (pc + 3) ls ((2, n) :: st) A r A') : k_AW d M pc ls st A r A' :=
  ⟨k.1, fun p l e R s m args below meth c Q D cy A0 al0 sc ob al H locs cells slots LS C G F Y L gl gs => lv_ldc2 C.1 C.2.1 C.2.2.2.2.1 (C.2.2.2.2.2.1 _ hw) hd (k.2 p l e R s m args below meth c Q D cy A0 al0 sc ob al H locs cells slots LS C G F Y L gl (k_gl_cons.mpr ⟨hn, gs⟩))⟩
theorem k_iload_n {i : Fin 4} {j : Nat} {x : Int} (hd : decode M.2.1 pc = .ok (.iload_n i, 1)) (hi : (i : Nat) = j) (hl : ls[j]? = some (0, x)) (k : k_AW d M (pc + 1) ls ((0, x) :: st) A r A') : k_AW d M pc ls st A r A' :=
  k_pure k (fun al hx hb L _ _ k => lv_iload_n hx hb hd hi (L.2.2 j _ hl (by show 0 < 3; decide)) k) (fun gl g => k_gl_cons.mpr ⟨gl _ (List.mem_of_getElem? hl), g⟩)
theorem k_iload {j : Nat} {x : Int} (hd : decode M.2.1 pc = .ok (.iload j, 2)) (hl : ls[j]? = some (0, x)) (k : k_AW d M (pc + 2) ls ((0, x) :: st) A r A') : k_AW d M pc ls st A r A' :=
  k_pure k (fun al hx hb L _ _ k => lv_iload hx hb hd (L.2.2 j _ hl (by show 0 < 3; decide)) k) (fun gl g => k_gl_cons.mpr ⟨gl _ (List.mem_of_getElem? hl), g⟩)
theorem k_lload_n {i : Fin 4} {j : Nat} {x : Int} (hd : decode M.2.1 pc = .ok (.lload_n i, 1)) (hi : (i : Nat) = j) (hl : ls[j]? = some (2, x)) (k : k_AW d M (pc + 1) ls ((2, x) :: st) A r A') : k_AW d M pc ls st A r A' :=
  k_pure k (fun al hx hb L _ _ k => lv_lload_n hx hb hd hi (L.2.2 j _ hl (by show 2 < 3; decide)) k) (fun gl g => k_gl_cons.mpr ⟨gl _ (List.mem_of_getElem? hl), g⟩)
theorem k_lload {j : Nat} {x : Int} (hd : decode M.2.1 pc = .ok (.lload j, 2)) (hl : ls[j]? = some (2, x)) (k : k_AW d M (pc + 2) ls ((2, x) :: st) A r A') : k_AW d M pc ls st A r A' :=
  k_pure k (fun al hx hb L _ _ k => lv_lload hx hb hd (L.2.2 j _ hl (by show 2 < 3; decide)) k) (fun gl g => k_gl_cons.mpr ⟨gl _ (List.mem_of_getElem? hl), g⟩)
theorem k_aload_n {i : Fin 4} {j : Nat} {x : Int} (hd : decode M.2.1 pc = .ok (.aload_n i, 1)) (hi : (i : Nat) = j) (hl : ls[j]? = some (1, x)) (k : k_AW d M (pc + 1) ls ((1, x) :: st) A r A') : k_AW d M pc ls st A r A' :=
  k_pure k (fun al hx hb L _ _ k => by
    have h := L.2.2 j _ hl (by show 1 < 3; decide)
    have e : k_tv al (1, x) = va_rf (k_orf al x) := rfl
    rw [List.map_cons] at k
    rw [e] at h k
    cases hq : k_orf al x with
    | none => rw [hq] at h k; exact lv_aload_nN hx hb hd hi h k
    | some q => rw [hq] at h k; exact lv_aload_n hx hb hd hi h k) (fun gl g => k_gl_cons.mpr ⟨gl _ (List.mem_of_getElem? hl), g⟩)
theorem k_aload {j : Nat} {x : Int} (hd : decode M.2.1 pc = .ok (.aload j, 2)) (hl : ls[j]? = some (1, x)) (k : k_AW d M (pc + 2) ls ((1, x) :: st) A r A') : k_AW d M pc ls st A r A' :=
  k_pure k (fun al hx hb L _ _ k => by
    have h := L.2.2 j _ hl (by show 1 < 3; decide)
    have e : k_tv al (1, x) = va_rf (k_orf al x) := rfl
    rw [List.map_cons] at k
    rw [e] at h k
    cases hq : k_orf al x with
    | none => rw [hq] at h k; exact lv_aloadN hx hb hd h k
    | some q => rw [hq] at h k; exact lv_aload hx hb hd h k) (fun gl g => k_gl_cons.mpr ⟨gl _ (List.mem_of_getElem? hl), g⟩)
end
def k_lvl (al : Int → Nat) (ls : List k_V) : List (Nat × Value) := (List.range ls.length).filterMap fun k => (ls[k]?).bind fun v => if v.1 < 3 then some (k, k_tv al v) else none
theorem k_lvl_mem {al : Int → Nat} {ls : List k_V} {k : Nat} {v : k_V} (h : ls[k]? = some v) (hv : v.1 < 3) : (k, k_tv al v) ∈ k_lvl al ls := by
  refine List.mem_filterMap.mpr ⟨k, List.mem_range.mpr (List.getElem?_eq_some_iff.mp h).1, ?_⟩
  rw [h]
  show (if v.1 < 3 then _ else _) = _
  rw [if_pos hv]
theorem k_lvl_has {al : Int → Nat} {nL : Nat} {ls : List k_V} {LS : Array Slot} (h : k_lo al nL ls LS) : lv_has LS nL (k_lvl al ls) := by
  refine ⟨h.1, h.2.1, fun q hq => ?_⟩
  obtain ⟨k, -, hk⟩ := List.mem_filterMap.mp hq
  cases hv : ls[k]? with
  | none => rw [hv] at hk; simp at hk
  | some v =>
    rw [hv] at hk
    have hk : (if v.1 < 3 then some (k, k_tv al v) else none) = some q := hk
    by_cases h3 : v.1 < 3
    · rw [if_pos h3] at hk
      cases hk
      exact h.2.2 k v hv h3
    · rw [if_neg h3] at hk; cases hk
/-- no long just ahead -/
def k_nol (ls : List k_V) : Nat → Bool
  | 0 => true
  | j + 1 => (ls.getD j (3, 0)).1 != 2
theorem k_lo_set {al : Int → Nat} {nL : Nat} {ls : List k_V} {LS : Array Slot} {i : Nat} {v : k_V} (hn : k_nol ls i = true) (h : lv_has LS nL ((i, k_tv al v) :: (k_lvl al ls).filter (fun q => !(q.1 == i) && !(q.1 + 1 == i && q.2.category == 2)))) : k_lo al nL (ls.set i v) LS := by
  refine ⟨h.1, h.2.1, fun k w hk hw => ?_⟩
  rw [List.getElem?_set] at hk
  by_cases hi : i = k
  · rw [if_pos hi] at hk
    subst hi
    split at hk
    · cases hk
      exact h.2.2 _ List.mem_cons_self
    · cases hk
  · rw [if_neg hi] at hk
    refine h.2.2 (k, k_tv al w) (List.mem_cons_of_mem _ (List.mem_filter.mpr ⟨k_lvl_mem hk hw, ?_⟩))
    have h1 : (k == i) = false := by simp; omega
    have h2 : (k + 1 == i && (k_tv al w).category == 2) = false := by
      by_cases hj : k + 1 = i
      · subst hj
        have h3 : (ls.getD k (3, 0)).1 ≠ 2 := by simpa [k_nol] using hn
        rw [List.getD_eq_getElem?_getD, hk] at h3
        have h4 : w.1 ≠ 2 := h3
        rw [k_cat al w hw, if_neg h4]
        simp
      · simp [hj]
    show (!(k == i) && !(k + 1 == i && (k_tv al w).category == 2)) = true
    rw [h1, h2]; rfl
theorem k_gl_set {n : Nat} {ls : List k_V} {i : Nat} {v : k_V} (g : k_gl n ls) (h : k_gv n v) : k_gl n (ls.set i v) := fun w hw => by
  rcases List.mem_or_eq_of_mem_set hw with h1 | h1
  · exact g w h1
  · rw [h1]; exact h
section
variable {d : Nat} {M : k_M} {pc : Nat} {ls st : List k_V} {A : k_H} {r : Int} {A' : k_H}
theorem k_istore_n {i : Fin 4} {j : Nat} {x : Int} (hd : decode M.2.1 pc = .ok (.istore_n i, 1)) (hi : (i : Nat) = j) (hj : j < M.2.2.1) (hn : k_nol ls j = true) (k : k_AW d M (pc + 1) (ls.set j (0, x)) st A r A') : k_AW d M pc ls ((0, x) :: st) A r A' :=
  ⟨k.1, fun p l e R s m args below meth c Q D cy A0 al0 sc ob al H locs cells slots LS C G F Y L gl gs => lv_istore_n C.1 C.2.1 hd hi (k_lvl_has L) hj rfl fun LS' h' => k.2 p l e R s m args below meth c Q D cy A0 al0 sc ob al H locs cells slots LS' C G F Y (k_lo_set (v := (0, x)) hn h') (k_gl_set gl (k_gl_cons.mp gs).1) (k_gl_cons.mp gs).2⟩
theorem k_istore {j : Nat} {x : Int} (hd : decode M.2.1 pc = .ok (.istore j, 2)) (hj : j < M.2.2.1) (hn : k_nol ls j = true) (k : k_AW d M (pc + 2) (ls.set j (0, x)) st A r A') : k_AW d M pc ls ((0, x) :: st) A r A' :=
  ⟨k.1, fun p l e R s m args below meth c Q D cy A0 al0 sc ob al H locs cells slots LS C G F Y L gl gs => lv_istore C.1 C.2.1 hd (k_lvl_has L) hj rfl fun LS' h' => k.2 p l e R s m args below meth c Q D cy A0 al0 sc ob al H locs cells slots LS' C G F Y (k_lo_set (v := (0, x)) hn h') (k_gl_set gl (k_gl_cons.mp gs).1) (k_gl_cons.mp gs).2⟩
theorem k_astore_n {i : Fin 4} {j : Nat} {x : Int} (hd : decode M.2.1 pc = .ok (.astore_n i, 1)) (hi : (i : Nat) = j) (hj : j < M.2.2.1) (hn : k_nol ls j = true) (hr : x ≠ -1) (k : k_AW d M (pc + 1) (ls.set j (1, x)) st A r A') : k_AW d M pc ls ((1, x) :: st) A r A' :=
  ⟨k.1, fun p l e R s m args below meth c Q D cy A0 al0 sc ob al H locs cells slots LS C G F Y L gl gs => by
    have ev : k_tv al (1, x) = .ref (al x) := by
      show va_rf (k_orf al x) = _
      unfold k_orf; rw [if_neg hr]; rfl
    have w : W p l e R s m args below meth c H locs cells slots Q (F0 m pc LS (.ref (al x) :: st.map (k_tv al))) := lv_astore_n C.1 C.2.1 hd hi (k_lvl_has L) hj rfl fun LS' h' => k.2 p l e R s m args below meth c Q D cy A0 al0 sc ob al H locs cells slots LS' C G F Y (k_lo_set (v := (1, x)) hn (by rw [ev]; exact h')) (k_gl_set gl (k_gl_cons.mp gs).1) (k_gl_cons.mp gs).2
    rw [List.map_cons, ev]
    exact w⟩
theorem k_astore {j : Nat} {x : Int} (hd : decode M.2.1 pc = .ok (.astore j, 2)) (hj : j < M.2.2.1) (hn : k_nol ls j = true) (hr : x ≠ -1) (k : k_AW d M (pc + 2) (ls.set j (1, x)) st A r A') : k_AW d M pc ls ((1, x) :: st) A r A' :=
  ⟨k.1, fun p l e R s m args below meth c Q D cy A0 al0 sc ob al H locs cells slots LS C G F Y L gl gs => by
    have ev : k_tv al (1, x) = .ref (al x) := by
      show va_rf (k_orf al x) = _
      unfold k_orf; rw [if_neg hr]; rfl
    have w : W p l e R s m args below meth c H locs cells slots Q (F0 m pc LS (.ref (al x) :: st.map (k_tv al))) := lv_astore C.1 C.2.1 hd (k_lvl_has L) hj rfl fun LS' h' => k.2 p l e R s m args below meth c Q D cy A0 al0 sc ob al H locs cells slots LS' C G F Y (k_lo_set (v := (1, x)) hn (by rw [ev]; exact h')) (k_gl_set gl (k_gl_cons.mp gs).1) (k_gl_cons.mp gs).2
    rw [List.map_cons, ev]
    exact w⟩
theorem k_iinc {j : Nat} {x n : Int} (hd : decode M.2.1 pc = .ok (.iinc j n, 3)) (hj : j < M.2.2.1) (hn : k_nol ls j = true) (hl : ls[j]? = some (0, x)) (k : k_AW d M (pc + 3) (ls.set j (0, k_wr (x + n))) st A r A') : k_AW d M pc ls st A r A' :=
  ⟨k.1, fun p l e R s m args below meth c Q D cy A0 al0 sc ob al H locs cells slots LS C G F Y L gl gs => by
    obtain ⟨i, hi⟩ := List.getElem?_of_mem (k_lvl_mem (al := al) hl (by show 0 < 3; decide))
    exact lv_iinc C.1 C.2.1 hd (k_lvl_has L) hi (v := Int32.ofInt (k_wr (x + n))) (by rw [k_of_wr, Int32.ofInt_add]) hj rfl fun LS' h' => k.2 p l e R s m args below meth c Q D cy A0 al0 sc ob al H locs cells slots LS' C G F Y (k_lo_set (v := (0, k_wr (x + n))) hn h') (k_gl_set gl (k_wr_range _)) gs⟩
theorem k_iadd {x y : Int} (hd : decode M.2.1 pc = .ok (.iadd, 1)) (k : k_AW d M (pc + 1) ls ((0, k_wr (x + y)) :: st) A r A') : k_AW d M pc ls ((0, y) :: (0, x) :: st) A r A' :=
  k_pure k (fun al hx hb _ _ gs k => lv_iadd hx hb hd (by
    rw [List.map_cons] at k
    have e : k_tv al (0, k_wr (x + y)) = .int (Int32.ofInt x + Int32.ofInt y) := congrArg Value.int ((k_of_wr _).trans (Int32.ofInt_add _ _))
    rw [e] at k
    exact k)) (fun _ g => k_gl_cons.mpr ⟨k_wr_range _, (k_gl_cons.mp (k_gl_cons.mp g).2).2⟩)
theorem k_isub {x y : Int} (hd : decode M.2.1 pc = .ok (.isub, 1)) (k : k_AW d M (pc + 1) ls ((0, k_wr (x - y)) :: st) A r A') : k_AW d M pc ls ((0, y) :: (0, x) :: st) A r A' :=
  k_pure k (fun al hx hb _ _ gs k => lv_isub hx hb hd (by
    rw [List.map_cons] at k
    have e : k_tv al (0, k_wr (x - y)) = .int (Int32.ofInt x - Int32.ofInt y) := congrArg Value.int ((k_of_wr _).trans (Int32.ofInt_sub _ _))
    rw [e] at k
    exact k)) (fun _ g => k_gl_cons.mpr ⟨k_wr_range _, (k_gl_cons.mp (k_gl_cons.mp g).2).2⟩)
theorem k_imul {x y : Int} (hd : decode M.2.1 pc = .ok (.imul, 1)) (k : k_AW d M (pc + 1) ls ((0, k_wr (x * y)) :: st) A r A') : k_AW d M pc ls ((0, y) :: (0, x) :: st) A r A' :=
  k_pure k (fun al hx hb _ _ gs k => lv_imul hx hb hd (by
    rw [List.map_cons] at k
    have e : k_tv al (0, k_wr (x * y)) = .int (Int32.ofInt x * Int32.ofInt y) := congrArg Value.int ((k_of_wr _).trans (Int32.ofInt_mul _ _))
    rw [e] at k
    exact k)) (fun _ g => k_gl_cons.mpr ⟨k_wr_range _, (k_gl_cons.mp (k_gl_cons.mp g).2).2⟩)
theorem k_iand {x y : Int} (hd : decode M.2.1 pc = .ok (.iand, 1)) (k : k_AW d M (pc + 1) ls ((0, k_and x y) :: st) A r A') : k_AW d M pc ls ((0, y) :: (0, x) :: st) A r A' :=
  k_pure k (fun al hx hb _ _ gs k => lv_iand hx hb hd (by
    rw [List.map_cons] at k
    have e : k_tv al (0, k_and x y) = .int (Int32.ofInt x &&& Int32.ofInt y) := congrArg Value.int (Int32.ofInt_toInt _)
    rw [e] at k
    exact k)) (fun _ g => k_gl_cons.mpr ⟨k_gi _ _, (k_gl_cons.mp (k_gl_cons.mp g).2).2⟩)
theorem k_ior {x y : Int} (hd : decode M.2.1 pc = .ok (.ior, 1)) (k : k_AW d M (pc + 1) ls ((0, k_or x y) :: st) A r A') : k_AW d M pc ls ((0, y) :: (0, x) :: st) A r A' :=
  k_pure k (fun al hx hb _ _ gs k => lv_ior hx hb hd (by
    rw [List.map_cons] at k
    have e : k_tv al (0, k_or x y) = .int (Int32.ofInt x ||| Int32.ofInt y) := congrArg Value.int (Int32.ofInt_toInt _)
    rw [e] at k
    exact k)) (fun _ g => k_gl_cons.mpr ⟨k_gi _ _, (k_gl_cons.mp (k_gl_cons.mp g).2).2⟩)
theorem k_ishl {x y : Int} (hd : decode M.2.1 pc = .ok (.ishl, 1)) (k : k_AW d M (pc + 1) ls ((0, k_shl x y) :: st) A r A') : k_AW d M pc ls ((0, y) :: (0, x) :: st) A r A' :=
  k_pure k (fun al hx hb _ _ gs k => lv_ishl hx hb hd (by
    rw [List.map_cons] at k
    have e : k_tv al (0, k_shl x y) = .int (Int32.ofInt x <<< (Int32.ofInt y &&& 31)) := congrArg Value.int (Int32.ofInt_toInt _)
    rw [e] at k
    exact k)) (fun _ g => k_gl_cons.mpr ⟨k_gi _ _, (k_gl_cons.mp (k_gl_cons.mp g).2).2⟩)
theorem k_ishr {x y : Int} (hd : decode M.2.1 pc = .ok (.ishr, 1)) (k : k_AW d M (pc + 1) ls ((0, k_shr x y) :: st) A r A') : k_AW d M pc ls ((0, y) :: (0, x) :: st) A r A' :=
  k_pure k (fun al hx hb _ _ gs k => lv_ishr hx hb hd (by
    rw [List.map_cons] at k
    have e : k_tv al (0, k_shr x y) = .int (Int32.ofInt x >>> (Int32.ofInt y &&& 31)) := congrArg Value.int (Int32.ofInt_toInt _)
    rw [e] at k
    exact k)) (fun _ g => k_gl_cons.mpr ⟨k_gi _ _, (k_gl_cons.mp (k_gl_cons.mp g).2).2⟩)
theorem k_land {x y : Int} (hd : decode M.2.1 pc = .ok (.land, 1)) (k : k_AW d M (pc + 1) ls ((2, k_landd x y) :: st) A r A') : k_AW d M pc ls ((2, y) :: (2, x) :: st) A r A' :=
  k_pure k (fun al hx hb _ _ gs k => lv_land hx hb hd (by
    rw [List.map_cons] at k
    have e : k_tv al (2, k_landd x y) = .long (Int64.ofInt x &&& Int64.ofInt y) := congrArg Value.long (Int64.ofInt_toInt _)
    rw [e] at k
    exact k)) (fun _ g => k_gl_cons.mpr ⟨k_gl64 _ _, (k_gl_cons.mp (k_gl_cons.mp g).2).2⟩)
theorem k_lor {x y : Int} (hd : decode M.2.1 pc = .ok (.lor, 1)) (k : k_AW d M (pc + 1) ls ((2, k_lorr x y) :: st) A r A') : k_AW d M pc ls ((2, y) :: (2, x) :: st) A r A' :=
  k_pure k (fun al hx hb _ _ gs k => lv_lor hx hb hd (by
    rw [List.map_cons] at k
    have e : k_tv al (2, k_lorr x y) = .long (Int64.ofInt x ||| Int64.ofInt y) := congrArg Value.long (Int64.ofInt_toInt _)
    rw [e] at k
    exact k)) (fun _ g => k_gl_cons.mpr ⟨k_gl64 _ _, (k_gl_cons.mp (k_gl_cons.mp g).2).2⟩)
theorem k_iushr {x y : Int} (hd : decode M.2.1 pc = .ok (.iushr, 1)) (k : k_AW d M (pc + 1) ls ((0, k_ushr x y) :: st) A r A') : k_AW d M pc ls ((0, y) :: (0, x) :: st) A r A' :=
  k_pure k (fun al hx hb _ _ gs k => lv_iushr hx hb hd (Int32.ofInt_toInt _).symm k) (fun _ g => k_gl_cons.mpr ⟨k_gi _ _, (k_gl_cons.mp (k_gl_cons.mp g).2).2⟩)
theorem k_lshl_ {x y : Int} (hd : decode M.2.1 pc = .ok (.lshl, 1)) (k : k_AW d M (pc + 1) ls ((2, k_lshl x y) :: st) A r A') : k_AW d M pc ls ((0, y) :: (2, x) :: st) A r A' :=
  k_pure k (fun al hx hb _ _ gs k => lv_lshl hx hb hd (Int64.ofInt_toInt _).symm k) (fun _ g => k_gl_cons.mpr ⟨k_gl64 _ _, (k_gl_cons.mp (k_gl_cons.mp g).2).2⟩)
theorem k_lshr_ {x y : Int} (hd : decode M.2.1 pc = .ok (.lshr, 1)) (k : k_AW d M (pc + 1) ls ((2, k_lshr x y) :: st) A r A') : k_AW d M pc ls ((0, y) :: (2, x) :: st) A r A' :=
  k_pure k (fun al hx hb _ _ gs k => lv_lshr hx hb hd (Int64.ofInt_toInt _).symm k) (fun _ g => k_gl_cons.mpr ⟨k_gl64 _ _, (k_gl_cons.mp (k_gl_cons.mp g).2).2⟩)
theorem k_ineg {x : Int} (hd : decode M.2.1 pc = .ok (.ineg, 1)) (k : k_AW d M (pc + 1) ls ((0, k_wr (-x)) :: st) A r A') : k_AW d M pc ls ((0, x) :: st) A r A' :=
  k_pure k (fun al hx hb _ _ gs k => lv_ineg hx hb hd (by
    rw [List.map_cons] at k
    have e : k_tv al (0, k_wr (-x)) = .int (-Int32.ofInt x) := congrArg Value.int ((k_of_wr _).trans (Int32.ofInt_neg _))
    rw [e] at k
    exact k)) (fun _ g => k_gl_cons.mpr ⟨k_wr_range _, (k_gl_cons.mp g).2⟩)
theorem k_ine0 {n : Nat} {y : Int} (g : k_gv n (0, y)) (h : y ≠ 0) : ¬ Int32.ofInt y = 0 := fun e => h ((k_ieq g (k_g00 n)).mp e)
theorem k_idiv {x y : Int} (hd : decode M.2.1 pc = .ok (.idiv, 1)) (hy : y ≠ 0) (k : k_AW d M (pc + 1) ls ((0, k_wr (x.tdiv y)) :: st) A r A') : k_AW d M pc ls ((0, y) :: (0, x) :: st) A r A' :=
  k_pure k (fun al hx hb _ _ gs k => by
    have gy := (k_gl_cons.mp gs).1
    have gx := (k_gl_cons.mp (k_gl_cons.mp gs).2).1
    refine lv_idiv hx hb hd (k_ine0 gy hy) ?_
    rw [List.map_cons] at k
    have e : k_tv al (0, k_wr (x.tdiv y)) = .int (Int32.ofInt x / Int32.ofInt y) := congrArg Value.int (by
      rw [k_of_wr, ← Int32.toInt_inj, Int32.toInt_div, k_i0 gx, k_i0 gy, Int32.toInt_ofInt])
    rw [e] at k
    exact k) (fun _ g => k_gl_cons.mpr ⟨k_wr_range _, (k_gl_cons.mp (k_gl_cons.mp g).2).2⟩)
theorem k_irem {x y : Int} (hd : decode M.2.1 pc = .ok (.irem, 1)) (hy : y ≠ 0) (k : k_AW d M (pc + 1) ls ((0, k_wr (x.tmod y)) :: st) A r A') : k_AW d M pc ls ((0, y) :: (0, x) :: st) A r A' :=
  k_pure k (fun al hx hb _ _ gs k => by
    have gy := (k_gl_cons.mp gs).1
    have gx := (k_gl_cons.mp (k_gl_cons.mp gs).2).1
    refine lv_irem hx hb hd (k_ine0 gy hy) ?_
    rw [List.map_cons] at k
    have e : k_tv al (0, k_wr (x.tmod y)) = .int (Int32.ofInt x - Int32.ofInt x / Int32.ofInt y * Int32.ofInt y) := congrArg Value.int (by
      have h1 : Int32.ofInt x / Int32.ofInt y = Int32.ofInt (x.tdiv y) := by
        rw [← Int32.toInt_inj, Int32.toInt_div, k_i0 gx, k_i0 gy, Int32.toInt_ofInt]
      rw [k_of_wr, h1, ← Int32.ofInt_mul, ← Int32.ofInt_sub, Int.tmod_def, Int.mul_comm])
    rw [e] at k
    exact k) (fun _ g => k_gl_cons.mpr ⟨k_wr_range _, (k_gl_cons.mp (k_gl_cons.mp g).2).2⟩)
theorem k_i2l {x : Int} (hd : decode M.2.1 pc = .ok (.i2l, 1)) (k : k_AW d M (pc + 1) ls ((2, x) :: st) A r A') : k_AW d M pc ls ((0, x) :: st) A r A' :=
  k_pure k (fun al hx hb _ _ gs k => by
    have gx : k_gv (k_N A) (0, x) := (k_gl_cons.mp gs).1
    refine lv_i2l hx hb hd ?_ k
    rw [← Int64.toInt_inj, Int32.toInt_toInt64, k_i0 gx]
    exact (Int64.toInt_ofInt_of_le (Int.le_trans (by decide) gx.1) (Int.lt_of_lt_of_le gx.2 (by decide))).symm) (fun _ g => k_gl_cons.mpr ⟨⟨Int.le_trans (by decide) (k_gl_cons.mp g).1.1, Int.lt_of_lt_of_le (k_gl_cons.mp g).1.2 (by decide)⟩, (k_gl_cons.mp g).2⟩)
theorem k_i2b {x : Int} (hd : decode M.2.1 pc = .ok (.i2b, 1)) (k : k_AW d M (pc + 1) ls ((0, k_b8 x) :: st) A r A') : k_AW d M pc ls ((0, x) :: st) A r A' :=
  k_pure k (fun al hx hb _ _ gs k => lv_i2b hx hb hd (Int32.ofInt_toInt _).symm k) (fun _ g => k_gl_cons.mpr ⟨k_gi _ _, (k_gl_cons.mp g).2⟩)
theorem k_i2c {x : Int} (hd : decode M.2.1 pc = .ok (.i2c, 1)) (k : k_AW d M (pc + 1) ls ((0, k_c16 x) :: st) A r A') : k_AW d M pc ls ((0, x) :: st) A r A' :=
  k_pure k (fun al hx hb _ _ gs k => lv_i2c hx hb hd (Int32.ofInt_toInt _).symm k) (fun _ g => k_gl_cons.mpr ⟨k_gi _ _, (k_gl_cons.mp g).2⟩)
theorem k_lcmp {x y : Int} (hd : decode M.2.1 pc = .ok (.lcmp, 1)) (k : k_AW d M (pc + 1) ls ((0, if y < x then 1 else if x = y then 0 else -1) :: st) A r A') : k_AW d M pc ls ((2, y) :: (2, x) :: st) A r A' :=
  k_pure k (fun al hx hb _ _ gs k => by
    have gy := (k_gl_cons.mp gs).1
    have gx := (k_gl_cons.mp (k_gl_cons.mp gs).2).1
    refine W.lcmp hx hb hd ?_
    rw [List.map_cons] at k
    have e : k_tv al (0, if y < x then 1 else if x = y then 0 else -1) = .int (lg_cmp (Int64.ofInt x) (Int64.ofInt y)) := congrArg Value.int (by
      unfold lg_cmp
      have h1 : Int64.ofInt x > Int64.ofInt y ↔ y < x := by rw [gt_iff_lt, Int64.lt_iff_toInt_lt, k_l0 gx, k_l0 gy]
      have h2 : Int64.ofInt x = Int64.ofInt y ↔ x = y := by rw [← Int64.toInt_inj, k_l0 gx, k_l0 gy]
      by_cases c1 : y < x
      · rw [if_pos c1, if_pos (h1.mpr c1)]; rfl
      · rw [if_neg c1, if_neg (fun z => c1 (h1.mp z))]
        by_cases c2 : x = y
        · rw [if_pos c2, if_pos (h2.mpr c2)]; rfl
        · rw [if_neg c2, if_neg (fun z => c2 (h2.mp z))]; rfl)
    rw [e] at k
    exact k) (fun _ g => k_gl_cons.mpr ⟨by
      by_cases c1 : y < x
      · rw [if_pos c1]; exact ⟨by decide, by decide⟩
      · rw [if_neg c1]; split <;> exact ⟨by decide, by decide⟩, (k_gl_cons.mp (k_gl_cons.mp g).2).2⟩)
theorem k_dup {v : k_V} (hd : decode M.2.1 pc = .ok (.dup, 1)) (hv : v.1 < 2) (k : k_AW d M (pc + 1) ls (v :: v :: st) A r A') : k_AW d M pc ls (v :: st) A r A' :=
  k_pure k (fun al hx hb _ _ gs k => lv_dup hx hb hd (by rw [k_cat al v (by omega), if_neg (by omega)]) k) (fun _ g => k_gl_cons.mpr ⟨(k_gl_cons.mp g).1, g⟩)
theorem k_pop {v : k_V} (hd : decode M.2.1 pc = .ok (.pop, 1)) (hv : v.1 < 2) (k : k_AW d M (pc + 1) ls st A r A') : k_AW d M pc ls (v :: st) A r A' :=
  k_pure k (fun al hx hb _ _ gs k => lv_pop hx hb hd (by rw [k_cat al v (by omega), if_neg (by omega)]) k) (fun _ g => (k_gl_cons.mp g).2)
theorem k_dup2 {v w : k_V} (hd : decode M.2.1 pc = .ok (.dup2, 1)) (hv : v.1 < 2) (hw : w.1 < 2) (k : k_AW d M (pc + 1) ls (v :: w :: v :: w :: st) A r A') : k_AW d M pc ls (v :: w :: st) A r A' :=
  k_pure k (fun al hx hb _ _ gs k => lv_dup2_11 hx hb hd (by rw [k_cat al v (by omega), if_neg (by omega)]) (by rw [k_cat al w (by omega), if_neg (by omega)]) k) (fun _ g => k_gl_cons.mpr ⟨(k_gl_cons.mp g).1, k_gl_cons.mpr ⟨(k_gl_cons.mp (k_gl_cons.mp g).2).1, g⟩⟩)
theorem k_goto {off : Int} {tgt : Nat} (hd : decode M.2.1 pc = .ok (.goto off, 3)) (ht : (pc : Int) + off = (tgt : Int)) (k : k_AW d M tgt ls st A r A') : k_AW d M pc ls st A r A' :=
  k_pure k (fun al hx hb _ _ gs k => lv_goto hx hb hd ht k) (fun _ g => g)
theorem k_ret {x : Int} {ty : FieldType} (hd : decode M.2.1 pc = .ok (.ireturn, 1)) (hr : M.2.2.2 = some ty) (hn : narrow ty (.int (Int32.ofInt x)) = .int (Int32.ofInt x)) : k_AW d M pc ls [(0, x)] A x A :=
  ⟨k_le_rf A, fun p l e R s m args below meth c Q D cy A0 al0 sc ob al H locs cells slots LS C G F Y L gl gs => F al H locs cells slots pc LS _ Y (Or.inr ⟨ty, hr, hd, rfl, hn, (k_gl_cons.mp gs).1⟩)⟩
theorem k_retv (hd : decode M.2.1 pc = .ok (.return_, 1)) (hr : M.2.2.2 = none) : k_AW d M pc ls [] A 0 A :=
  ⟨k_le_rf A, fun p l e R s m args below meth c Q D cy A0 al0 sc ob al H locs cells slots LS C G F Y L gl gs => F al H locs cells slots pc LS _ Y (Or.inl ⟨hr, hd, rfl, rfl⟩)⟩
theorem k_icmp_eq {x y : Int} {off : Int} {tgt : Nat} (hd : decode M.2.1 pc = .ok (.if_icmp .eq off, 3)) (ht : (pc : Int) + off = (tgt : Int)) (kt : x = y → k_AW d M tgt ls st A r A') (kf : ¬ (x = y) → k_AW d M (pc + 3) ls st A r A') : k_AW d M pc ls ((0, y) :: (0, x) :: st) A r A' := by
  by_cases h : x = y
  · exact k_pure (kt h) (fun al hx hb _ _ gs k => by
      have gy := (k_gl_cons.mp gs).1
      have gx := (k_gl_cons.mp (k_gl_cons.mp gs).2).1
      exact lv_icmp_eq hx hb hd ht (fun _ => k) (fun z => absurd (((k_ieq gx gy)).mpr h) z)) (fun _ g => (k_gl_cons.mp (k_gl_cons.mp g).2).2)
  · exact k_pure (kf h) (fun al hx hb _ _ gs k => by
      have gy := (k_gl_cons.mp gs).1
      have gx := (k_gl_cons.mp (k_gl_cons.mp gs).2).1
      exact lv_icmp_eq hx hb hd ht (fun z => absurd (((k_ieq gx gy)).mp z) h) (fun _ => k)) (fun _ g => (k_gl_cons.mp (k_gl_cons.mp g).2).2)
theorem k_if_eq {x : Int} {off : Int} {tgt : Nat} (hd : decode M.2.1 pc = .ok (.ifCond .eq off, 3)) (ht : (pc : Int) + off = (tgt : Int)) (kt : x = 0 → k_AW d M tgt ls st A r A') (kf : ¬ (x = 0) → k_AW d M (pc + 3) ls st A r A') : k_AW d M pc ls ((0, x) :: st) A r A' := by
  by_cases h : x = 0
  · exact k_pure (kt h) (fun al hx hb _ _ gs k => by
      have gx := (k_gl_cons.mp gs).1
      have gy := k_g00 (k_N A)
      exact lv_if_eq hx hb hd ht (fun _ => k) (fun z => absurd (((k_ieq gx gy)).mpr h) z)) (fun _ g => (k_gl_cons.mp g).2)
  · exact k_pure (kf h) (fun al hx hb _ _ gs k => by
      have gx := (k_gl_cons.mp gs).1
      have gy := k_g00 (k_N A)
      exact lv_if_eq hx hb hd ht (fun z => absurd (((k_ieq gx gy)).mp z) h) (fun _ => k)) (fun _ g => (k_gl_cons.mp g).2)
theorem k_icmp_ne {x y : Int} {off : Int} {tgt : Nat} (hd : decode M.2.1 pc = .ok (.if_icmp .ne off, 3)) (ht : (pc : Int) + off = (tgt : Int)) (kt : ¬ x = y → k_AW d M tgt ls st A r A') (kf : ¬ (¬ x = y) → k_AW d M (pc + 3) ls st A r A') : k_AW d M pc ls ((0, y) :: (0, x) :: st) A r A' := by
  by_cases h : ¬ x = y
  · exact k_pure (kt h) (fun al hx hb _ _ gs k => by
      have gy := (k_gl_cons.mp gs).1
      have gx := (k_gl_cons.mp (k_gl_cons.mp gs).2).1
      exact lv_icmp_ne hx hb hd ht (fun _ => k) (fun z => (h ((k_ieq gx gy).mp z)).elim)) (fun _ g => (k_gl_cons.mp (k_gl_cons.mp g).2).2)
  · exact k_pure (kf h) (fun al hx hb _ _ gs k => by
      have gy := (k_gl_cons.mp gs).1
      have gx := (k_gl_cons.mp (k_gl_cons.mp gs).2).1
      exact lv_icmp_ne hx hb hd ht (fun z => absurd ((((not_congr (k_ieq gx gy)))).mp z) h) (fun _ => k)) (fun _ g => (k_gl_cons.mp (k_gl_cons.mp g).2).2)
theorem k_if_ne {x : Int} {off : Int} {tgt : Nat} (hd : decode M.2.1 pc = .ok (.ifCond .ne off, 3)) (ht : (pc : Int) + off = (tgt : Int)) (kt : ¬ x = 0 → k_AW d M tgt ls st A r A') (kf : ¬ (¬ x = 0) → k_AW d M (pc + 3) ls st A r A') : k_AW d M pc ls ((0, x) :: st) A r A' := by
  by_cases h : ¬ x = 0
  · exact k_pure (kt h) (fun al hx hb _ _ gs k => by
      have gx := (k_gl_cons.mp gs).1
      have gy := k_g00 (k_N A)
      exact lv_if_ne hx hb hd ht (fun _ => k) (fun z => (h ((k_ieq gx gy).mp z)).elim)) (fun _ g => (k_gl_cons.mp g).2)
  · exact k_pure (kf h) (fun al hx hb _ _ gs k => by
      have gx := (k_gl_cons.mp gs).1
      have gy := k_g00 (k_N A)
      exact lv_if_ne hx hb hd ht (fun z => absurd ((((not_congr (k_ieq gx gy)))).mp z) h) (fun _ => k)) (fun _ g => (k_gl_cons.mp g).2)
theorem k_icmp_lt {x y : Int} {off : Int} {tgt : Nat} (hd : decode M.2.1 pc = .ok (.if_icmp .lt off, 3)) (ht : (pc : Int) + off = (tgt : Int)) (kt : x < y → k_AW d M tgt ls st A r A') (kf : ¬ (x < y) → k_AW d M (pc + 3) ls st A r A') : k_AW d M pc ls ((0, y) :: (0, x) :: st) A r A' := by
  by_cases h : x < y
  · exact k_pure (kt h) (fun al hx hb _ _ gs k => by
      have gy := (k_gl_cons.mp gs).1
      have gx := (k_gl_cons.mp (k_gl_cons.mp gs).2).1
      exact lv_icmp_lt hx hb hd ht (fun _ => k) (fun z => absurd (((k_ilt gx gy)).mpr h) z)) (fun _ g => (k_gl_cons.mp (k_gl_cons.mp g).2).2)
  · exact k_pure (kf h) (fun al hx hb _ _ gs k => by
      have gy := (k_gl_cons.mp gs).1
      have gx := (k_gl_cons.mp (k_gl_cons.mp gs).2).1
      exact lv_icmp_lt hx hb hd ht (fun z => absurd (((k_ilt gx gy)).mp z) h) (fun _ => k)) (fun _ g => (k_gl_cons.mp (k_gl_cons.mp g).2).2)
theorem k_if_lt {x : Int} {off : Int} {tgt : Nat} (hd : decode M.2.1 pc = .ok (.ifCond .lt off, 3)) (ht : (pc : Int) + off = (tgt : Int)) (kt : x < 0 → k_AW d M tgt ls st A r A') (kf : ¬ (x < 0) → k_AW d M (pc + 3) ls st A r A') : k_AW d M pc ls ((0, x) :: st) A r A' := by
  by_cases h : x < 0
  · exact k_pure (kt h) (fun al hx hb _ _ gs k => by
      have gx := (k_gl_cons.mp gs).1
      have gy := k_g00 (k_N A)
      exact lv_if_lt hx hb hd ht (fun _ => k) (fun z => absurd (((k_ilt gx gy)).mpr h) z)) (fun _ g => (k_gl_cons.mp g).2)
  · exact k_pure (kf h) (fun al hx hb _ _ gs k => by
      have gx := (k_gl_cons.mp gs).1
      have gy := k_g00 (k_N A)
      exact lv_if_lt hx hb hd ht (fun z => absurd (((k_ilt gx gy)).mp z) h) (fun _ => k)) (fun _ g => (k_gl_cons.mp g).2)
theorem k_icmp_ge {x y : Int} {off : Int} {tgt : Nat} (hd : decode M.2.1 pc = .ok (.if_icmp .ge off, 3)) (ht : (pc : Int) + off = (tgt : Int)) (kt : y ≤ x → k_AW d M tgt ls st A r A') (kf : ¬ (y ≤ x) → k_AW d M (pc + 3) ls st A r A') : k_AW d M pc ls ((0, y) :: (0, x) :: st) A r A' := by
  by_cases h : y ≤ x
  · exact k_pure (kt h) (fun al hx hb _ _ gs k => by
      have gy := (k_gl_cons.mp gs).1
      have gx := (k_gl_cons.mp (k_gl_cons.mp gs).2).1
      exact lv_icmp_ge hx hb hd ht (fun _ => k) (fun z => absurd (((k_ile gy gx)).mpr h) z)) (fun _ g => (k_gl_cons.mp (k_gl_cons.mp g).2).2)
  · exact k_pure (kf h) (fun al hx hb _ _ gs k => by
      have gy := (k_gl_cons.mp gs).1
      have gx := (k_gl_cons.mp (k_gl_cons.mp gs).2).1
      exact lv_icmp_ge hx hb hd ht (fun z => absurd (((k_ile gy gx)).mp z) h) (fun _ => k)) (fun _ g => (k_gl_cons.mp (k_gl_cons.mp g).2).2)
theorem k_if_ge {x : Int} {off : Int} {tgt : Nat} (hd : decode M.2.1 pc = .ok (.ifCond .ge off, 3)) (ht : (pc : Int) + off = (tgt : Int)) (kt : 0 ≤ x → k_AW d M tgt ls st A r A') (kf : ¬ (0 ≤ x) → k_AW d M (pc + 3) ls st A r A') : k_AW d M pc ls ((0, x) :: st) A r A' := by
  by_cases h : 0 ≤ x
  · exact k_pure (kt h) (fun al hx hb _ _ gs k => by
      have gx := (k_gl_cons.mp gs).1
      have gy := k_g00 (k_N A)
      exact lv_if_ge hx hb hd ht (fun _ => k) (fun z => absurd (((k_ile gy gx)).mpr h) z)) (fun _ g => (k_gl_cons.mp g).2)
  · exact k_pure (kf h) (fun al hx hb _ _ gs k => by
      have gx := (k_gl_cons.mp gs).1
      have gy := k_g00 (k_N A)
      exact lv_if_ge hx hb hd ht (fun z => absurd (((k_ile gy gx)).mp z) h) (fun _ => k)) (fun _ g => (k_gl_cons.mp g).2)
theorem k_icmp_gt {x y : Int} {off : Int} {tgt : Nat} (hd : decode M.2.1 pc = .ok (.if_icmp .gt off, 3)) (ht : (pc : Int) + off = (tgt : Int)) (kt : y < x → k_AW d M tgt ls st A r A') (kf : ¬ (y < x) → k_AW d M (pc + 3) ls st A r A') : k_AW d M pc ls ((0, y) :: (0, x) :: st) A r A' := by
  by_cases h : y < x
  · exact k_pure (kt h) (fun al hx hb _ _ gs k => by
      have gy := (k_gl_cons.mp gs).1
      have gx := (k_gl_cons.mp (k_gl_cons.mp gs).2).1
      exact lv_icmp_gt hx hb hd ht (fun _ => k) (fun z => absurd (((k_ilt gy gx)).mpr h) z)) (fun _ g => (k_gl_cons.mp (k_gl_cons.mp g).2).2)
  · exact k_pure (kf h) (fun al hx hb _ _ gs k => by
      have gy := (k_gl_cons.mp gs).1
      have gx := (k_gl_cons.mp (k_gl_cons.mp gs).2).1
      exact lv_icmp_gt hx hb hd ht (fun z => absurd (((k_ilt gy gx)).mp z) h) (fun _ => k)) (fun _ g => (k_gl_cons.mp (k_gl_cons.mp g).2).2)
theorem k_if_gt {x : Int} {off : Int} {tgt : Nat} (hd : decode M.2.1 pc = .ok (.ifCond .gt off, 3)) (ht : (pc : Int) + off = (tgt : Int)) (kt : 0 < x → k_AW d M tgt ls st A r A') (kf : ¬ (0 < x) → k_AW d M (pc + 3) ls st A r A') : k_AW d M pc ls ((0, x) :: st) A r A' := by
  by_cases h : 0 < x
  · exact k_pure (kt h) (fun al hx hb _ _ gs k => by
      have gx := (k_gl_cons.mp gs).1
      have gy := k_g00 (k_N A)
      exact lv_if_gt hx hb hd ht (fun _ => k) (fun z => absurd (((k_ilt gy gx)).mpr h) z)) (fun _ g => (k_gl_cons.mp g).2)
  · exact k_pure (kf h) (fun al hx hb _ _ gs k => by
      have gx := (k_gl_cons.mp gs).1
      have gy := k_g00 (k_N A)
      exact lv_if_gt hx hb hd ht (fun z => absurd (((k_ilt gy gx)).mp z) h) (fun _ => k)) (fun _ g => (k_gl_cons.mp g).2)
theorem k_icmp_le {x y : Int} {off : Int} {tgt : Nat} (hd : decode M.2.1 pc = .ok (.if_icmp .le off, 3)) (ht : (pc : Int) + off = (tgt : Int)) (kt : x ≤ y → k_AW d M tgt ls st A r A') (kf : ¬ (x ≤ y) → k_AW d M (pc + 3) ls st A r A') : k_AW d M pc ls ((0, y) :: (0, x) :: st) A r A' := by
  by_cases h : x ≤ y
  · exact k_pure (kt h) (fun al hx hb _ _ gs k => by
      have gy := (k_gl_cons.mp gs).1
      have gx := (k_gl_cons.mp (k_gl_cons.mp gs).2).1
      exact lv_icmp_le hx hb hd ht (fun _ => k) (fun z => absurd (((k_ile gx gy)).mpr h) z)) (fun _ g => (k_gl_cons.mp (k_gl_cons.mp g).2).2)
  · exact k_pure (kf h) (fun al hx hb _ _ gs k => by
      have gy := (k_gl_cons.mp gs).1
      have gx := (k_gl_cons.mp (k_gl_cons.mp gs).2).1
      exact lv_icmp_le hx hb hd ht (fun z => absurd (((k_ile gx gy)).mp z) h) (fun _ => k)) (fun _ g => (k_gl_cons.mp (k_gl_cons.mp g).2).2)
theorem k_if_le {x : Int} {off : Int} {tgt : Nat} (hd : decode M.2.1 pc = .ok (.ifCond .le off, 3)) (ht : (pc : Int) + off = (tgt : Int)) (kt : x ≤ 0 → k_AW d M tgt ls st A r A') (kf : ¬ (x ≤ 0) → k_AW d M (pc + 3) ls st A r A') : k_AW d M pc ls ((0, x) :: st) A r A' := by
  by_cases h : x ≤ 0
  · exact k_pure (kt h) (fun al hx hb _ _ gs k => by
      have gx := (k_gl_cons.mp gs).1
      have gy := k_g00 (k_N A)
      exact lv_if_le hx hb hd ht (fun _ => k) (fun z => absurd (((k_ile gx gy)).mpr h) z)) (fun _ g => (k_gl_cons.mp g).2)
  · exact k_pure (kf h) (fun al hx hb _ _ gs k => by
      have gx := (k_gl_cons.mp gs).1
      have gy := k_g00 (k_N A)
      exact lv_if_le hx hb hd ht (fun z => absurd (((k_ile gx gy)).mp z) h) (fun _ => k)) (fun _ g => (k_gl_cons.mp g).2)
theorem k_swin {dflt lo hi : Int} {offs : Array Int} {len : Nat} {x off : Int} {tgt : Nat} (hd : decode M.2.1 pc = .ok (.tableswitch dflt lo hi offs, len)) (h1 : lo ≤ x) (h2 : x ≤ hi) (ho : offs[(x - lo).toNat]? = some off) (ht : (pc : Int) + off = (tgt : Int)) (k : k_AW d M tgt ls st A r A') : k_AW d M pc ls ((0, x) :: st) A r A' :=
  k_pure k (fun al hx hb _ _ gs k => by
    have gx := k_i0 (k_gl_cons.mp gs).1
    exact lv_tableIn hx hb hd (by rw [gx]; omega) (by rw [gx]; omega) (by rw [gx]; exact ho) ht k) (fun _ g => (k_gl_cons.mp g).2)
theorem k_swout {dflt lo hi : Int} {offs : Array Int} {len : Nat} {x : Int} {tgt : Nat} (hd : decode M.2.1 pc = .ok (.tableswitch dflt lo hi offs, len)) (h : x < lo ∨ hi < x) (ht : (pc : Int) + dflt = (tgt : Int)) (k : k_AW d M tgt ls st A r A') : k_AW d M pc ls ((0, x) :: st) A r A' :=
  k_pure k (fun al hx hb _ _ gs k => by
    have gx := k_i0 (k_gl_cons.mp gs).1
    exact lv_tableOut hx hb hd (by rw [gx]; exact h) ht k) (fun _ g => (k_gl_cons.mp g).2)
end
end
section
/-! rules of the heap -/
/-- a class of the picture -/
def k_CI (ci : Nat) (Cn : String) (Tt : u_T) (Nn : Nat) (ty : Nat → FieldType) : Prop :=
  vwCl[ci]? = some (Cn, Tt, Nn) ∧ Nn = (k_ftab.getD ci []).length ∧ ci < 20 ∧ (∀ w ∈ u_ws Cn Tt Nn, w ∈ k_GW) ∧ (∀ k, k < Nn → parseFieldDescriptor (Tt k).2.2.1 = some (ty k)) ∧ (∀ a, a < Nn → ∀ b, b < Nn → a ≠ b → (Tt a).2.1 ≠ (Tt b).2.1) ∧ ∀ k, k < Nn → defaultValue (ty k) = k_tv (fun _ => 0) (k_etag ci k, k_dft ci k)
set_option maxRecDepth 20000 in
theorem k_uw0 : ∀ w ∈ u_ws RX0 TX0 2, w ∈ k_GW := List.forall_mem_cons.mpr ⟨k_gt 229 (by decide +kernel) (by decide +kernel), List.forall_mem_cons.mpr ⟨k_gt 231 (by decide +kernel) (by decide +kernel), fun _ h => absurd h List.not_mem_nil⟩⟩
set_option maxRecDepth 20000 in
theorem k_c0 : k_CI 0 RX0 TX0 2 tyX0 := ⟨rfl, rfl, by decide, k_uw0, tyX0_ok, nmX0, by decide +kernel⟩
set_option maxRecDepth 20000 in
theorem k_uw1 : ∀ w ∈ u_ws RX1 TX1 6, w ∈ k_GW := List.forall_mem_cons.mpr ⟨k_gt 246 (by decide +kernel) (by decide +kernel), List.forall_mem_cons.mpr ⟨k_gt 248 (by decide +kernel) (by decide +kernel), List.forall_mem_cons.mpr ⟨k_gt 250 (by decide +kernel) (by decide +kernel), List.forall_mem_cons.mpr ⟨k_gt 252 (by decide +kernel) (by decide +kernel), List.forall_mem_cons.mpr ⟨k_gt 254 (by decide +kernel) (by decide +kernel), List.forall_mem_cons.mpr ⟨k_gt 256 (by decide +kernel) (by decide +kernel), fun _ h => absurd h List.not_mem_nil⟩⟩⟩⟩⟩⟩
set_option maxRecDepth 20000 in
theorem k_c1 : k_CI 1 RX1 TX1 6 tyX1 := ⟨rfl, rfl, by decide, k_uw1, tyX1_ok, nmX1, by decide +kernel⟩
set_option maxRecDepth 20000 in
theorem k_uw2 : ∀ w ∈ u_ws RX2 TX2 11, w ∈ k_GW := List.forall_mem_cons.mpr ⟨k_gt 103 (by decide +kernel) (by decide +kernel), List.forall_mem_cons.mpr ⟨k_gt 105 (by decide +kernel) (by decide +kernel), List.forall_mem_cons.mpr ⟨k_gt 107 (by decide +kernel) (by decide +kernel), List.forall_mem_cons.mpr ⟨k_gt 109 (by decide +kernel) (by decide +kernel), List.forall_mem_cons.mpr ⟨k_gt 111 (by decide +kernel) (by decide +kernel), List.forall_mem_cons.mpr ⟨k_gt 113 (by decide +kernel) (by decide +kernel), List.forall_mem_cons.mpr ⟨k_gt 115 (by decide +kernel) (by decide +kernel), List.forall_mem_cons.mpr ⟨k_gt 117 (by decide +kernel) (by decide +kernel), List.forall_mem_cons.mpr ⟨k_gt 119 (by decide +kernel) (by decide +kernel), List.forall_mem_cons.mpr ⟨k_gt 121 (by decide +kernel) (by decide +kernel), List.forall_mem_cons.mpr ⟨k_gt 123 (by decide +kernel) (by decide +kernel), fun _ h => absurd h List.not_mem_nil⟩⟩⟩⟩⟩⟩⟩⟩⟩⟩⟩
set_option maxRecDepth 20000 in
theorem k_c2 : k_CI 2 RX2 TX2 11 tyX2 := ⟨rfl, rfl, by decide, k_uw2, tyX2_ok, nmX2, by decide +kernel⟩
set_option maxRecDepth 20000 in
theorem k_uw3 : ∀ w ∈ u_ws RX3 TX3 9, w ∈ k_GW := List.forall_mem_cons.mpr ⟨k_gt 67 (by decide +kernel) (by decide +kernel), List.forall_mem_cons.mpr ⟨k_gt 69 (by decide +kernel) (by decide +kernel), List.forall_mem_cons.mpr ⟨k_gt 71 (by decide +kernel) (by decide +kernel), List.forall_mem_cons.mpr ⟨k_gt 73 (by decide +kernel) (by decide +kernel), List.forall_mem_cons.mpr ⟨k_gt 75 (by decide +kernel) (by decide +kernel), List.forall_mem_cons.mpr ⟨k_gt 77 (by decide +kernel) (by decide +kernel), List.forall_mem_cons.mpr ⟨k_gt 79 (by decide +kernel) (by decide +kernel), List.forall_mem_cons.mpr ⟨k_gt 81 (by decide +kernel) (by decide +kernel), List.forall_mem_cons.mpr ⟨k_gt 83 (by decide +kernel) (by decide +kernel), fun _ h => absurd h List.not_mem_nil⟩⟩⟩⟩⟩⟩⟩⟩⟩
set_option maxRecDepth 20000 in
theorem k_c3 : k_CI 3 RX3 TX3 9 tyX3 := ⟨rfl, rfl, by decide, k_uw3, tyX3_ok, nmX3, by decide +kernel⟩
set_option maxRecDepth 20000 in
theorem k_uw4 : ∀ w ∈ u_ws RX4 TX4 10, w ∈ k_GW := List.forall_mem_cons.mpr ⟨k_gt 295 (by decide +kernel) (by decide +kernel), List.forall_mem_cons.mpr ⟨k_gt 297 (by decide +kernel) (by decide +kernel), List.forall_mem_cons.mpr ⟨k_gt 299 (by decide +kernel) (by decide +kernel), List.forall_mem_cons.mpr ⟨k_gt 301 (by decide +kernel) (by decide +kernel), List.forall_mem_cons.mpr ⟨k_gt 303 (by decide +kernel) (by decide +kernel), List.forall_mem_cons.mpr ⟨k_gt 305 (by decide +kernel) (by decide +kernel), List.forall_mem_cons.mpr ⟨k_gt 307 (by decide +kernel) (by decide +kernel), List.forall_mem_cons.mpr ⟨k_gt 309 (by decide +kernel) (by decide +kernel), List.forall_mem_cons.mpr ⟨k_gt 311 (by decide +kernel) (by decide +kernel), List.forall_mem_cons.mpr ⟨k_gt 313 (by decide +kernel) (by decide +kernel), fun _ h => absurd h List.not_mem_nil⟩⟩⟩⟩⟩⟩⟩⟩⟩⟩
set_option maxRecDepth 20000 in
theorem k_c4 : k_CI 4 RX4 TX4 10 tyX4 := ⟨rfl, rfl, by decide, k_uw4, tyX4_ok, nmX4, by decide +kernel⟩
set_option maxRecDepth 20000 in
theorem k_uw5 : ∀ w ∈ u_ws RX5 TX5 2, w ∈ k_GW := List.forall_mem_cons.mpr ⟨k_gt 42 (by decide +kernel) (by decide +kernel), List.forall_mem_cons.mpr ⟨k_gt 44 (by decide +kernel) (by decide +kernel), fun _ h => absurd h List.not_mem_nil⟩⟩
set_option maxRecDepth 20000 in
theorem k_c5 : k_CI 5 RX5 TX5 2 tyX5 := ⟨rfl, rfl, by decide, k_uw5, tyX5_ok, nmX5, by decide +kernel⟩
set_option maxRecDepth 20000 in
theorem k_uw6 : ∀ w ∈ u_ws RX6 TX6 7, w ∈ k_GW := List.forall_mem_cons.mpr ⟨k_gt 152 (by decide +kernel) (by decide +kernel), List.forall_mem_cons.mpr ⟨k_gt 154 (by decide +kernel) (by decide +kernel), List.forall_mem_cons.mpr ⟨k_gt 156 (by decide +kernel) (by decide +kernel), List.forall_mem_cons.mpr ⟨k_gt 158 (by decide +kernel) (by decide +kernel), List.forall_mem_cons.mpr ⟨k_gt 160 (by decide +kernel) (by decide +kernel), List.forall_mem_cons.mpr ⟨k_gt 162 (by decide +kernel) (by decide +kernel), List.forall_mem_cons.mpr ⟨k_gt 164 (by decide +kernel) (by decide +kernel), fun _ h => absurd h List.not_mem_nil⟩⟩⟩⟩⟩⟩⟩
set_option maxRecDepth 20000 in
theorem k_c6 : k_CI 6 RX6 TX6 7 tyX6 := ⟨rfl, rfl, by decide, k_uw6, tyX6_ok, nmX6, by decide +kernel⟩
set_option maxRecDepth 20000 in
theorem k_uw7 : ∀ w ∈ u_ws RX7 TX7 12, w ∈ k_GW := List.forall_mem_cons.mpr ⟨k_gt 185 (by decide +kernel) (by decide +kernel), List.forall_mem_cons.mpr ⟨k_gt 187 (by decide +kernel) (by decide +kernel), List.forall_mem_cons.mpr ⟨k_gt 189 (by decide +kernel) (by decide +kernel), List.forall_mem_cons.mpr ⟨k_gt 191 (by decide +kernel) (by decide +kernel), List.forall_mem_cons.mpr ⟨k_gt 193 (by decide +kernel) (by decide +kernel), List.forall_mem_cons.mpr ⟨k_gt 195 (by decide +kernel) (by decide +kernel), List.forall_mem_cons.mpr ⟨k_gt 197 (by decide +kernel) (by decide +kernel), List.forall_mem_cons.mpr ⟨k_gt 199 (by decide +kernel) (by decide +kernel), List.forall_mem_cons.mpr ⟨k_gt 201 (by decide +kernel) (by decide +kernel), List.forall_mem_cons.mpr ⟨k_gt 203 (by decide +kernel) (by decide +kernel), List.forall_mem_cons.mpr ⟨k_gt 205 (by decide +kernel) (by decide +kernel), List.forall_mem_cons.mpr ⟨k_gt 207 (by decide +kernel) (by decide +kernel), fun _ h => absurd h List.not_mem_nil⟩⟩⟩⟩⟩⟩⟩⟩⟩⟩⟩⟩
set_option maxRecDepth 20000 in
theorem k_c7 : k_CI 7 RX7 TX7 12 tyX7 := ⟨rfl, rfl, by decide, k_uw7, tyX7_ok, nmX7, by decide +kernel⟩
set_option maxRecDepth 20000 in
theorem k_uw8 : ∀ w ∈ u_ws RX8 TX8 8, w ∈ k_GW := List.forall_mem_cons.mpr ⟨k_gt 324 (by decide +kernel) (by decide +kernel), List.forall_mem_cons.mpr ⟨k_gt 326 (by decide +kernel) (by decide +kernel), List.forall_mem_cons.mpr ⟨k_gt 328 (by decide +kernel) (by decide +kernel), List.forall_mem_cons.mpr ⟨k_gt 330 (by decide +kernel) (by decide +kernel), List.forall_mem_cons.mpr ⟨k_gt 332 (by decide +kernel) (by decide +kernel), List.forall_mem_cons.mpr ⟨k_gt 334 (by decide +kernel) (by decide +kernel), List.forall_mem_cons.mpr ⟨k_gt 336 (by decide +kernel) (by decide +kernel), List.forall_mem_cons.mpr ⟨k_gt 338 (by decide +kernel) (by decide +kernel), fun _ h => absurd h List.not_mem_nil⟩⟩⟩⟩⟩⟩⟩⟩
set_option maxRecDepth 20000 in
theorem k_c8 : k_CI 8 RX8 TX8 8 tyX8 := ⟨rfl, rfl, by decide, k_uw8, tyX8_ok, nmX8, by decide +kernel⟩
set_option maxRecDepth 20000 in
theorem k_uw9 : ∀ w ∈ u_ws RX9 TX9 43, w ∈ k_GW := List.forall_mem_cons.mpr ⟨k_gt 911 (by decide +kernel) (by decide +kernel), List.forall_mem_cons.mpr ⟨k_gt 913 (by decide +kernel) (by decide +kernel), List.forall_mem_cons.mpr ⟨k_gt 915 (by decide +kernel) (by decide +kernel), List.forall_mem_cons.mpr ⟨k_gt 917 (by decide +kernel) (by decide +kernel), List.forall_mem_cons.mpr ⟨k_gt 919 (by decide +kernel) (by decide +kernel), List.forall_mem_cons.mpr ⟨k_gt 921 (by decide +kernel) (by decide +kernel), List.forall_mem_cons.mpr ⟨k_gt 923 (by decide +kernel) (by decide +kernel), List.forall_mem_cons.mpr ⟨k_gt 925 (by decide +kernel) (by decide +kernel), List.forall_mem_cons.mpr ⟨k_gt 927 (by decide +kernel) (by decide +kernel), List.forall_mem_cons.mpr ⟨k_gt 929 (by decide +kernel) (by decide +kernel), List.forall_mem_cons.mpr ⟨k_gt 931 (by decide +kernel) (by decide +kernel), List.forall_mem_cons.mpr ⟨k_gt 933 (by decide +kernel) (by decide +kernel), List.forall_mem_cons.mpr ⟨k_gt 935 (by decide +kernel) (by decide +kernel), List.forall_mem_cons.mpr ⟨k_gt 937 (by decide +kernel) (by decide +kernel), List.forall_mem_cons.mpr ⟨k_gt 939 (by decide +kernel) (by decide +kernel), List.forall_mem_cons.mpr ⟨k_gt 941 (by decide +kernel) (by decide +kernel), List.forall_mem_cons.mpr ⟨k_gt 943 (by decide +kernel) (by decide +kernel), List.forall_mem_cons.mpr ⟨k_gt 945 (by decide +kernel) (by decide +kernel), List.forall_mem_cons.mpr ⟨k_gt 947 (by decide +kernel) (by decide +kernel), List.forall_mem_cons.mpr ⟨k_gt 949 (by decide +kernel) (by decide +kernel), List.forall_mem_cons.mpr ⟨k_gt 951 (by decide +kernel) (by decide +kernel), List.forall_mem_cons.mpr ⟨k_gt 953 (by decide +kernel) (by decide +kernel), List.forall_mem_cons.mpr ⟨k_gt 955 (by decide +kernel) (by decide +kernel), List.forall_mem_cons.mpr ⟨k_gt 957 (by decide +kernel) (by decide +kernel), List.forall_mem_cons.mpr ⟨k_gt 959 (by decide +kernel) (by decide +kernel), List.forall_mem_cons.mpr ⟨k_gt 961 (by decide +kernel) (by decide +kernel), List.forall_mem_cons.mpr ⟨k_gt 963 (by decide +kernel) (by decide +kernel), List.forall_mem_cons.mpr ⟨k_gt 965 (by decide +kernel) (by decide +kernel), List.forall_mem_cons.mpr ⟨k_gt 967 (by decide +kernel) (by decide +kernel), List.forall_mem_cons.mpr ⟨k_gt 969 (by decide +kernel) (by decide +kernel), List.forall_mem_cons.mpr ⟨k_gt 971 (by decide +kernel) (by decide +kernel), List.forall_mem_cons.mpr ⟨k_gt 973 (by decide +kernel) (by decide +kernel), List.forall_mem_cons.mpr ⟨k_gt 975 (by decide +kernel) (by decide +kernel), List.forall_mem_cons.mpr ⟨k_gt 977 (by decide +kernel) (by decide +kernel), List.forall_mem_cons.mpr ⟨k_gt 979 (by decide +kernel) (by decide +kernel), List.forall_mem_cons.mpr ⟨k_gt 981 (by decide +kernel) (by decide +kernel), List.forall_mem_cons.mpr ⟨k_gt 983 (by decide +kernel) (by decide +kernel), List.forall_mem_cons.mpr ⟨k_gt 985 (by decide +kernel) (by decide +kernel), List.forall_mem_cons.mpr ⟨k_gt 987 (by decide +kernel) (by decide +kernel), List.forall_mem_cons.mpr ⟨k_gt 989 (by decide +kernel) (by decide +kernel), List.forall_mem_cons.mpr ⟨k_gt 991 (by decide +kernel) (by decide +kernel), List.forall_mem_cons.mpr ⟨k_gt 993 (by decide +kernel) (by decide +kernel), List.forall_mem_cons.mpr ⟨k_gt 995 (by decide +kernel) (by decide +kernel), fun _ h => absurd h List.not_mem_nil⟩⟩⟩⟩⟩⟩⟩⟩⟩⟩⟩⟩⟩⟩⟩⟩⟩⟩⟩⟩⟩⟩⟩⟩⟩⟩⟩⟩⟩⟩⟩⟩⟩⟩⟩⟩⟩⟩⟩⟩⟩⟩⟩
set_option maxRecDepth 20000 in
theorem k_c9 : k_CI 9 RX9 TX9 43 tyX9 := ⟨rfl, rfl, by decide, k_uw9, tyX9_ok, nmX9, by decide +kernel⟩
/-- a field by its link -/
def k_FL (own : String) (idx ci k : Nat) (fin : Bool) (ty : FieldType) : Prop := ∃ (Cn : String) (Tt : u_T) (Nn : Nat) (ty0 : Nat → FieldType), k_CI ci Cn Tt Nn ty0 ∧ k < Nn ∧ Cond.fieldLink own idx (Tt k).1 (Tt k).2.1 (Tt k).2.2.1 ∈ k_GW ∧ (Tt k).2.2.2 = fin ∧ ty0 k = ty ∧ (Tt k).1 = Cn
/-- an object of that class, an array of that kind with that place -/
abbrev k_isO (A : k_H) (a : Int) (ci : Nat) : Prop := 0 ≤ a ∧ a < k_N A ∧ (k_kd A a).1 = ci
abbrev k_isA (A : k_H) (a : Int) (K : Nat) (i : Int) : Prop := 0 ≤ a ∧ a < k_N A ∧ (k_kd A a).1 = K ∧ 0 ≤ i ∧ i < (k_kd A a).2
abbrev k_isR (A : k_H) (a : Int) (K : Nat) : Prop := 0 ≤ a ∧ a < k_N A ∧ (k_kd A a).1 = K
theorem k_cell_o {cy : Nat → ClassId} {al : Int → Nat} {kk : Nat × Nat} {f : Int → Int} {ci : Nat} (h : kk.1 = ci) (hc : ci < 20) : k_cell cy al kk f = .inr (ci, (List.range (k_ftab.getD ci []).length).map fun (i : Nat) => k_tv al (k_etag ci i, f i)) := by
  subst h
  unfold k_cell
  rw [if_pos hc]
theorem k_cell_i {cy : Nat → ClassId} {al : Int → Nat} {kk : Nat × Nat} {f : Int → Int} {K : Nat} (h : kk.1 = K) (h1 : 20 ≤ K) (h2 : K < 22) : k_cell cy al kk f = .inl (cy K, kk.2, .inl (fun (i : Nat) => Int32.ofInt (f i))) := by
  subst h
  unfold k_cell
  rw [if_neg (by omega), if_neg (by omega), if_pos (by omega)]
theorem k_cell_l {cy : Nat → ClassId} {al : Int → Nat} {kk : Nat × Nat} {f : Int → Int} (h : kk.1 = 22) : k_cell cy al kk f = .inl (cy 22, kk.2, .inr (.inl fun (i : Nat) => Int64.ofInt (f i))) := by
  unfold k_cell
  rw [if_neg (by omega), if_pos h, h]
theorem k_cell_r {cy : Nat → ClassId} {al : Int → Nat} {kk : Nat × Nat} {f : Int → Int} {K : Nat} (h : kk.1 = K) (h1 : 23 ≤ K) : k_cell cy al kk f = .inl (cy K, kk.2, .inr (.inr (.inr (.inr fun (i : Nat) => k_orf al (f i))))) := by
  subst h
  unfold k_cell
  rw [if_neg (by omega), if_neg (by omega), if_neg (by omega)]
theorem k_ref {al : Int → Nat} {a : Int} (h : 0 ≤ a) : k_tv al (1, a) = .ref (al a) := by
  show va_rf (k_orf al a) = _
  unfold k_orf; rw [if_neg (by omega)]; rfl
/-- reading and writing a picture -/
theorem k_fs_get {al : Int → Nat} {ci N k : Nat} {f : Int → Int} (hk : k < N) : ((List.range N).map fun (i : Nat) => k_tv al (k_etag ci i, f i))[k]? = some (k_tv al (k_etag ci k, f k)) := by simp [hk]
theorem k_fs_set {al : Int → Nat} {ci N k : Nat} {f : Int → Int} {v : Int} (hk : k < N) : (((List.range N).map fun (i : Nat) => k_tv al (k_etag ci i, f i)).set k (k_tv al (k_etag ci k, v))) = (List.range N).map fun (i : Nat) => k_tv al (k_etag ci i, (fun j : Int => if j = (k : Int) then v else f j) i) := by
  refine List.ext_getElem? fun n => ?_
  rw [List.getElem?_set]
  by_cases hn : n < N
  · by_cases e : k = n
    · subst e; simp [hn]
    · have e2 : ¬ ((n : Int) = (k : Int)) := by omega
      simp [hn, e, e2]
  · have h1 : (List.map (fun (i : Nat) => k_tv al (k_etag ci i, f i)) (List.range N))[n]? = none := by simp; omega
    have h2 : (List.map (fun (i : Nat) => k_tv al (k_etag ci i, (fun j : Int => if j = (k : Int) then v else f j) i)) (List.range N))[n]? = none := by simp; omega
    rw [h1, h2]
    split
    · rw [if_neg]; simp; omega
    · rfl
theorem k_vin {n : Nat} {i : Int} (g : k_gv n (0, i)) {L : Nat} (h0 : 0 ≤ i) (h : i < L) : vp_in (Int32.ofInt i) L ∧ (Int32.ofInt i).toNatClampNeg = i.toNat := by
  have e : (Int32.ofInt i).toNatClampNeg = i.toNat := by rw [← Int32.toNat_toInt, k_i0 g]
  refine ⟨?_, e⟩
  rw [vp_in_iff, k_i0 g]
  exact ⟨h0, h⟩
theorem k_toN {i : Int} (h0 : 0 ≤ i) : ((i.toNat : Nat) : Int) = i := Int.toNat_of_nonneg h0
/-- the movable part behind a write -/
theorem k_Dy_wt {s : State} {D : va_G} {cy : Nat → ClassId} {A0 : Nat → Prop} {al0 : Int → Nat} {sc : Nat × (Nat → Int32)} {ob : Nat × Nat × Nat} {al : Int → Nat} {A : k_H} {H H1 : Heap} {locs locs1 : List Loc} {cells slots : Nat} {a i v : Int} (Y : k_Dy s D cy A0 al0 sc ob al A H locs cells slots) (h0 : 0 ≤ a) (hv : k_gv (k_N A) (k_etag (k_kd A a).1 i, v))
    {w : Nat × va_E} (hw : w = (al a, k_cell cy al (k_kd A a) (fun j => if j = i then v else k_rd A a j))) (hP : va_P D vwCl ((k_ws cy al A).set a.toNat w) H1) (hD : va_D A0 ((k_ws cy al A).set a.toNat w)) (hS : va_S A0 s.heap H1 locs1) : k_Dy s D cy A0 al0 sc ob al (k_wt A a i v) H1 locs1 cells slots := by
  obtain ⟨-, -, -, yg, ysc, yc, yn, ya⟩ := Y
  rw [hw, ← k_ws_wt h0] at hP hD
  refine ⟨hP, hD, hS, k_gh_wt yg hv, ⟨ysc.1, fun j hj => ?_⟩, yc, yn, ya⟩
  show (if (-2 : Int) = a ∧ (j : Int) = i then v else k_rd A (-2) j) = _
  rw [if_neg (by omega)]
  exact ysc.2 j hj
/-- which values a field takes -/
def k_nf (ty : FieldType) (t : Nat) (x : Int) : Prop := match ty with
  | .int => t = 0
  | .boolean => t = 0 ∧ (x = 0 ∨ x = 1)
  | .long => t = 2
  | .object _ => t = 1
  | .array _ => t = 1
  | _ => False
theorem k_nf_ok {ty : FieldType} {t : Nat} {x : Int} {al : Int → Nat} (h : k_nf ty t x) : narrow ty (k_tv al (t, x)) = k_tv al (t, x) ∧ fits ty (k_tv al (t, x)) = true := by
  have hr : ∀ ty : FieldType, (∃ n, ty = .object n) ∨ (∃ n, ty = .array n) → narrow ty (k_tv al (1, x)) = k_tv al (1, x) ∧ fits ty (k_tv al (1, x)) = true := by
    intro ty hty
    have e : k_tv al (1, x) = va_rf (k_orf al x) := rfl
    rw [e]
    rcases hty with ⟨n, rfl⟩ | ⟨n, rfl⟩ <;> cases k_orf al x <;> exact ⟨rfl, rfl⟩
  cases ty with
  | int => cases h; exact ⟨rfl, rfl⟩
  | boolean =>
    obtain ⟨h1, h2⟩ := h
    subst h1
    rcases h2 with rfl | rfl <;> exact ⟨by show Value.int _ = Value.int _; congr 1, rfl⟩
  | long => cases h; exact ⟨rfl, rfl⟩
  | object n => cases h; exact hr _ (Or.inl ⟨n, rfl⟩)
  | array n => cases h; exact hr _ (Or.inr ⟨n, rfl⟩)
  | _ => exact absurd h (by intro z; exact z)
section
variable {d : Nat} {M : k_M} {pc : Nat} {ls st : List k_V} {A : k_H} {r : Int} {A' : k_H}
theorem k_getf {i ci f t : Nat} {a fi : Int} {fin : Bool} {ty : FieldType} (hd : decode M.2.1 pc = .ok (.getfield i, 3)) (hf : k_FL M.1.cls i ci f fin ty) (ht : k_etag ci f = t) (hfi : ((f : Nat) : Int) = fi) (ha : k_isO A a ci) (k : k_AW d M (pc + 3) ls ((t, k_rd A a fi) :: st) A r A') : k_AW d M pc ls ((1, a) :: st) A r A' :=
  ⟨k.1, fun p l e R s m args below meth c Q D cy A0 al0 sc ob al H locs cells slots LS C G F Y L gl gs => by
    obtain ⟨Cn, Tt, Nn, ty0, ⟨c1, c2, c3, c4, c5, c6, c7⟩, hfN, hlink, -, -, -⟩ := hf
    obtain ⟨h0, hN, hk⟩ := ha
    subst ht; subst hfi
    have gv := Y.2.2.2.1 a f h0 hN
    rw [hk] at gv
    have w := va_get (D := D) (rest := st.map (k_tv al)) (ls := LS) C.1 C.2.1 C.2.2.2.2.2.1 c4 C.2.2.2.2.1 C.2.2.2.2.2.2.2.2.1 Y.1 a.toNat ((k_ws_at h0 hN).trans (by rw [k_cell_o hk c3])) c1 f hfN (C.2.2.2.2.2.1 _ hlink) (fun _ h9 => h9) (k_fs_get (by rw [← c2]; exact hfN)) hd (k.2 p l e R s m args below meth c Q D cy A0 al0 sc ob al H locs cells slots LS C G F Y L gl (k_gl_cons.mpr ⟨gv, (k_gl_cons.mp gs).2⟩))
    rw [List.map_cons, k_ref h0]
    exact w⟩
theorem k_putf {i ci f t : Nat} {a x fi : Int} {ty : FieldType} (hd : decode M.2.1 pc = .ok (.putfield i, 3)) (hf : k_FL M.1.cls i ci f false ty) (ht : k_etag ci f = t) (hfi : ((f : Nat) : Int) = fi) (ha : k_isO A a ci) (hn : k_nf ty t x) (k : k_AW d M (pc + 3) ls st (k_wt A a fi x) r A') : k_AW d M pc ls ((t, x) :: (1, a) :: st) A r A' :=
  ⟨k.1, fun p l e R s m args below meth c Q D cy A0 al0 sc ob al H locs cells slots LS C G F Y L gl gs => by
    obtain ⟨Cn, Tt, Nn, ty0, ⟨c1, c2, c3, c4, c5, c6, c7⟩, hfN, hlink, hfin, hty, hcl⟩ := hf
    obtain ⟨h0, hN, hk⟩ := ha
    subst ht; subst hty; subst hfi
    have hnf := k_nf_ok (al := al) hn
    have gx := (k_gl_cons.mp gs).1
    rw [List.map_cons, List.map_cons, k_ref h0]
    have hlen : f < ((List.range (k_ftab.getD ci []).length).map fun (i : Nat) => k_tv al (k_etag ci i, k_rd A a i)).length := by simp only [List.length_map, List.length_range]; rw [← c2]; exact hfN
    refine va_put (D := D) (H0 := s.heap) C.1 C.2.1 C.2.2.2.2.2.1 c4 ty0 c5 c6 C.2.2.2.2.1 C.2.2.2.2.2.2.2.2.1 Y.1 Y.2.1 Y.2.2.1 a.toNat ((k_ws_at h0 hN).trans (by rw [k_cell_o hk c3])) c1 f hfN (C.2.2.2.2.2.1 _ hlink) (fun _ h9 => h9) hfin (c5 f hfN) hnf.1 hnf.2 hlen hd (fun H1 locs1 hP hD hS => ?_)
    rw [k_fs_set (by rw [← c2]; exact hfN)] at hP hD
    exact k.2 p l e R s m args below meth c Q D cy A0 al0 sc ob al H1 locs1 cells slots LS C G F (k_Dy_wt Y h0 (by rw [hk]; exact gx) (by rw [k_cell_o hk c3]) hP hD hS) L gl (k_gl_cons.mp (k_gl_cons.mp gs).2).2⟩
theorem k_putF {i ci f t : Nat} {a x fi : Int} {ty : FieldType} (hd : decode M.2.1 pc = .ok (.putfield i, 3)) (hf : k_FL M.1.cls i ci f true ty) (hc : M.1.name = "<init>") (ho : ∀ Cn Tt Nn, vwCl[ci]? = some (Cn, Tt, Nn) → Cn = M.1.cls) (ht : k_etag ci f = t) (hfi : ((f : Nat) : Int) = fi) (ha : k_isO A a ci) (hn : k_nf ty t x) (k : k_AW d M (pc + 3) ls st (k_wt A a fi x) r A') : k_AW d M pc ls ((t, x) :: (1, a) :: st) A r A' :=
  ⟨k.1, fun p l e R s m args below meth c Q D cy A0 al0 sc ob al H locs cells slots LS C G F Y L gl gs => by
    obtain ⟨Cn, Tt, Nn, ty0, ⟨c1, c2, c3, c4, c5, c6, c7⟩, hfN, hlink, hfin, hty, hcl⟩ := hf
    obtain ⟨h0, hN, hk⟩ := ha
    subst ht; subst hty; subst hfi
    have hnf := k_nf_ok (al := al) hn
    have gx := (k_gl_cons.mp gs).1
    rw [List.map_cons, List.map_cons, k_ref h0]
    have hlen : f < ((List.range (k_ftab.getD ci []).length).map fun (i : Nat) => k_tv al (k_etag ci i, k_rd A a i)).length := by simp only [List.length_map, List.length_range]; rw [← c2]; exact hfN
    refine va_putF (D := D) (H0 := s.heap) C.1 C.2.1 C.2.2.2.2.2.1 c4 ty0 c5 c6 C.2.2.2.2.1 C.2.2.2.2.2.2.2.2.1 Y.1 Y.2.1 Y.2.2.1 a.toNat ((k_ws_at h0 hN).trans (by rw [k_cell_o hk c3])) c1 f hfN (C.2.2.2.2.2.1 _ hlink) (fun _ h9 => h9) hfin (C.2.2.2.2.2.2.2.1.trans hc) (hcl.trans (ho _ _ _ c1)) (c5 f hfN) hnf.1 hnf.2 hlen hd (fun H1 locs1 hP hD hS => ?_)
    rw [k_fs_set (by rw [← c2]; exact hfN)] at hP hD
    exact k.2 p l e R s m args below meth c Q D cy A0 al0 sc ob al H1 locs1 cells slots LS C G F (k_Dy_wt Y h0 (by rw [hk]; exact gx) (by rw [k_cell_o hk c3]) hP hD hS) L gl (k_gl_cons.mp (k_gl_cons.mp gs).2).2⟩
theorem k_iaload {a i : Int} (hd : decode M.2.1 pc = .ok (.iaload, 1)) (ha : k_isA A a 21 i) (k : k_AW d M (pc + 1) ls ((0, k_rd A a i) :: st) A r A') : k_AW d M pc ls ((0, i) :: (1, a) :: st) A r A' :=
  ⟨k.1, fun p l e R s m args below meth c Q D cy A0 al0 sc ob al H locs cells slots LS C G F Y L gl gs => by
    obtain ⟨h0, hN, hk, hi0, hi⟩ := ha
    have gi := (k_gl_cons.mp gs).1
    obtain ⟨v1, v2⟩ := k_vin gi hi0 hi
    have gv := Y.2.2.2.1 a i h0 hN
    rw [hk] at gv
    rw [List.map_cons, List.map_cons, k_ref h0]
    refine va_iald (D := D) C.1 C.2.1 C.2.2.2.2.2.2.2.2.1 Y.1 a.toNat 1 ((k_ws_at h0 hN).trans (by rw [k_cell_i hk (by decide) (by decide)])) rfl v1 hd ?_
    rw [v2, k_toN hi0]
    exact k.2 p l e R s m args below meth c Q D cy A0 al0 sc ob al H locs cells slots LS C G F Y L gl (k_gl_cons.mpr ⟨gv, (k_gl_cons.mp (k_gl_cons.mp gs).2).2⟩)⟩
theorem k_baload {a i : Int} (hd : decode M.2.1 pc = .ok (.baload, 1)) (ha : k_isA A a 20 i) (k : k_AW d M (pc + 1) ls ((0, k_rd A a i) :: st) A r A') : k_AW d M pc ls ((0, i) :: (1, a) :: st) A r A' :=
  ⟨k.1, fun p l e R s m args below meth c Q D cy A0 al0 sc ob al H locs cells slots LS C G F Y L gl gs => by
    obtain ⟨h0, hN, hk, hi0, hi⟩ := ha
    have gi := (k_gl_cons.mp gs).1
    obtain ⟨v1, v2⟩ := k_vin gi hi0 hi
    have gv := Y.2.2.2.1 a i h0 hN
    rw [hk] at gv
    rw [List.map_cons, List.map_cons, k_ref h0]
    refine va_bald (D := D) C.1 C.2.1 C.2.2.2.2.2.2.2.2.1 Y.1 a.toNat 0 ((k_ws_at h0 hN).trans (by rw [k_cell_i hk (by decide) (by decide)])) rfl v1 hd ?_
    rw [v2, k_toN hi0]
    exact k.2 p l e R s m args below meth c Q D cy A0 al0 sc ob al H locs cells slots LS C G F Y L gl (k_gl_cons.mpr ⟨gv, (k_gl_cons.mp (k_gl_cons.mp gs).2).2⟩)⟩
theorem k_laload {a i : Int} (hd : decode M.2.1 pc = .ok (.laload, 1)) (ha : k_isA A a 22 i) (k : k_AW d M (pc + 1) ls ((2, k_rd A a i) :: st) A r A') : k_AW d M pc ls ((0, i) :: (1, a) :: st) A r A' :=
  ⟨k.1, fun p l e R s m args below meth c Q D cy A0 al0 sc ob al H locs cells slots LS C G F Y L gl gs => by
    obtain ⟨h0, hN, hk, hi0, hi⟩ := ha
    have gi := (k_gl_cons.mp gs).1
    obtain ⟨v1, v2⟩ := k_vin gi hi0 hi
    have gv := Y.2.2.2.1 a i h0 hN
    rw [hk] at gv
    rw [List.map_cons, List.map_cons, k_ref h0]
    refine va_lald (D := D) C.1 C.2.1 C.2.2.2.2.2.2.2.2.1 Y.1 a.toNat 2 ((k_ws_at h0 hN).trans (by rw [k_cell_l hk])) rfl v1 hd ?_
    rw [v2, k_toN hi0]
    exact k.2 p l e R s m args below meth c Q D cy A0 al0 sc ob al H locs cells slots LS C G F Y L gl (k_gl_cons.mpr ⟨gv, (k_gl_cons.mp (k_gl_cons.mp gs).2).2⟩)⟩
theorem k_aaload {a i : Int} {K : Nat} (hd : decode M.2.1 pc = .ok (.aaload, 1)) (hK : K = 23 ∨ K = 24) (ha : k_isA A a K i) (k : k_AW d M (pc + 1) ls ((1, k_rd A a i) :: st) A r A') : k_AW d M pc ls ((0, i) :: (1, a) :: st) A r A' :=
  ⟨k.1, fun p l e R s m args below meth c Q D cy A0 al0 sc ob al H locs cells slots LS C G F Y L gl gs => by
    obtain ⟨h0, hN, hk, hi0, hi⟩ := ha
    have gi := (k_gl_cons.mp gs).1
    obtain ⟨v1, v2⟩ := k_vin gi hi0 hi
    have gv := Y.2.2.2.1 a i h0 hN
    rw [hk] at gv
    rw [List.map_cons, List.map_cons, k_ref h0]
    rcases hK with rfl | rfl
    · refine va_aldq (D := D) C.1 C.2.1 C.2.2.2.2.2.2.2.2.1 Y.1 a.toNat 3 ((k_ws_at h0 hN).trans (by rw [k_cell_r hk (by decide)])) rfl v1 hd ?_
      rw [v2, k_toN hi0]
      exact k.2 p l e R s m args below meth c Q D cy A0 al0 sc ob al H locs cells slots LS C G F Y L gl (k_gl_cons.mpr ⟨gv, (k_gl_cons.mp (k_gl_cons.mp gs).2).2⟩)
    · refine va_aldq (D := D) C.1 C.2.1 C.2.2.2.2.2.2.2.2.1 Y.1 a.toNat 4 ((k_ws_at h0 hN).trans (by rw [k_cell_r hk (by decide)])) rfl v1 hd ?_
      rw [v2, k_toN hi0]
      exact k.2 p l e R s m args below meth c Q D cy A0 al0 sc ob al H locs cells slots LS C G F Y L gl (k_gl_cons.mpr ⟨gv, (k_gl_cons.mp (k_gl_cons.mp gs).2).2⟩)⟩
theorem k_alen {a : Int} {K : Nat} (hd : decode M.2.1 pc = .ok (.arraylength, 1)) (hK : K = 20 ∨ K = 21) (ha : k_isR A a K) (hl : (k_kd A a).2 < 2147483648) (k : k_AW d M (pc + 1) ls ((0, (k_kd A a).2) :: st) A r A') : k_AW d M pc ls ((1, a) :: st) A r A' :=
  ⟨k.1, fun p l e R s m args below meth c Q D cy A0 al0 sc ob al H locs cells slots LS C G F Y L gl gs => by
    obtain ⟨h0, hN, hk⟩ := ha
    have w := k.2 p l e R s m args below meth c Q D cy A0 al0 sc ob al H locs cells slots LS C G F Y L gl (k_gl_cons.mpr ⟨⟨by show (-2147483648 : Int) ≤ ((k_kd A a).2 : Int); omega, by show ((k_kd A a).2 : Int) < 2147483648; omega⟩, (k_gl_cons.mp gs).2⟩)
    have ev : Int32.ofNat (k_kd A a).2 = Int32.ofInt (((k_kd A a).2 : Nat) : Int) := Int32.ofInt_eq_ofNat.symm
    rw [List.map_cons, k_ref h0]
    rcases hK with rfl | rfl
    · exact va_alen (D := D) C.1 C.2.1 C.2.2.2.2.2.2.2.2.1 Y.1 a.toNat 0 ((k_ws_at h0 hN).trans (by rw [k_cell_i hk (by decide) (by decide)])) rfl ev hd w
    · exact va_alen (D := D) C.1 C.2.1 C.2.2.2.2.2.2.2.2.1 Y.1 a.toNat 1 ((k_ws_at h0 hN).trans (by rw [k_cell_i hk (by decide) (by decide)])) rfl ev hd w⟩
theorem k_sld {i : Int} (hd : decode M.2.1 pc = .ok (.iaload, 1)) (hi0 : 0 ≤ i) (hi : i < (k_kd A (-2)).2) (k : k_AW d M (pc + 1) ls ((0, k_rd A (-2) i) :: st) A r A') : k_AW d M pc ls ((0, i) :: (1, -2) :: st) A r A' :=
  ⟨k.1, fun p l e R s m args below meth c Q D cy A0 al0 sc ob al H locs cells slots LS C G F Y L gl gs => by
    obtain ⟨-, -, -, ⟨x1, x2, x3⟩, -, -, -⟩ := C.2.2.2.2.2.2.2.2.2.2.2.2
    have Y0 := Y
    obtain ⟨-, -, yS, -, ysc, -, yn, ya⟩ := Y0
    have ea : al (-2) = al0 (-2) := ya (-2) (by omega)
    have gi := (k_gl_cons.mp gs).1
    have hi2 : i < (sc.1 : Int) := by rw [ysc.1] at hi; exact hi
    obtain ⟨v1, v2⟩ := k_vin gi hi0 hi2
    have er : k_rd A (-2) i = (sc.2 i.toNat).toInt := by
      have := ysc.2 i.toNat (by omega)
      rw [k_toN hi0] at this
      exact this
    have w := k.2 p l e R s m args below meth c Q D cy A0 al0 sc ob al H locs cells slots LS C G F Y L gl (k_gl_cons.mpr ⟨by rw [er]; exact k_gi _ _, (k_gl_cons.mp (k_gl_cons.mp gs).2).2⟩)
    rw [List.map_cons, List.map_cons]
    have e1 : k_tv al (1, -2) = .ref (al0 (-2)) := by
      show va_rf (k_orf al (-2)) = _
      unfold k_orf; rw [if_neg (by decide), ea]; rfl
    rw [e1]
    refine va_sld C.1 C.2.1 x1 x2 x3 yS v1 hd ?_
    rw [v2]
    rw [List.map_cons, er] at w
    have e2 : k_tv al (0, (sc.2 i.toNat).toInt) = .int (sc.2 i.toNat) := congrArg Value.int (Int32.ofInt_toInt _)
    rw [e2] at w
    exact w⟩
theorem k_slen (hd : decode M.2.1 pc = .ok (.arraylength, 1)) (hl : (k_kd A (-2)).2 < 2147483648) (k : k_AW d M (pc + 1) ls ((0, (k_kd A (-2)).2) :: st) A r A') : k_AW d M pc ls ((1, -2) :: st) A r A' :=
  ⟨k.1, fun p l e R s m args below meth c Q D cy A0 al0 sc ob al H locs cells slots LS C G F Y L gl gs => by
    obtain ⟨-, -, -, ⟨x1, x2, x3⟩, -, -, -⟩ := C.2.2.2.2.2.2.2.2.2.2.2.2
    have Y0 := Y
    obtain ⟨-, -, yS, -, ysc, -, yn, ya⟩ := Y0
    have ea : al (-2) = al0 (-2) := ya (-2) (by omega)
    have w := k.2 p l e R s m args below meth c Q D cy A0 al0 sc ob al H locs cells slots LS C G F Y L gl (k_gl_cons.mpr ⟨⟨by show (-2147483648 : Int) ≤ ((k_kd A (-2)).2 : Int); omega, by show ((k_kd A (-2)).2 : Int) < 2147483648; omega⟩, (k_gl_cons.mp gs).2⟩)
    rw [List.map_cons]
    have e1 : k_tv al (1, -2) = .ref (al0 (-2)) := by
      show va_rf (k_orf al (-2)) = _
      unfold k_orf; rw [if_neg (by decide), ea]; rfl
    rw [e1]
    refine va_slen C.1 C.2.1 x1 x2 x3 yS hd ?_
    rw [List.map_cons, ysc.1] at w
    have e2 : k_tv al (0, ((sc.1 : Nat) : Int)) = .int (Int32.ofNat sc.1) := congrArg Value.int Int32.ofInt_eq_ofNat
    have w : W p l e R s m args below meth c H locs cells slots Q (F0 m (pc + 1) LS (k_tv al (0, ((sc.1 : Nat) : Int)) :: st.map (k_tv al))) := w
    rw [e2] at w
    exact w⟩
theorem k_iastore {a i x : Int} (hd : decode M.2.1 pc = .ok (.iastore, 1)) (ha : k_isA A a 21 i) (k : k_AW d M (pc + 1) ls st (k_wt A a i (x)) r A') : k_AW d M pc ls ((0, x) :: (0, i) :: (1, a) :: st) A r A' :=
  ⟨k.1, fun p l e R s m args below meth c Q D cy A0 al0 sc ob al H locs cells slots LS C G F Y L gl gs => by
    obtain ⟨h0, hN, hk, hi0, hi⟩ := ha
    have gi := (k_gl_cons.mp (k_gl_cons.mp gs).2).1
    obtain ⟨v1, v2⟩ := k_vin gi hi0 hi
    rw [List.map_cons, List.map_cons, List.map_cons, k_ref h0]
    refine va_iast (D := D) (H0 := s.heap) C.1 C.2.1 C.2.2.2.2.2.2.2.2.1 Y.1 Y.2.1 Y.2.2.1 a.toNat 1 ((k_ws_at h0 hN).trans (by rw [k_cell_i hk (by decide) (by decide)])) rfl v1 hd (fun H1 locs1 hP hD hS => ?_)
    rw [v2] at hP hD
    have hu : upd (fun (j : Nat) => Int32.ofInt (k_rd A a j)) i.toNat (Int32.ofInt x) = fun (j : Nat) => Int32.ofInt (if (j : Int) = i then (x) else k_rd A a j) := by
      funext j
      show (if j = i.toNat then _ else _) = _
      by_cases e : j = i.toNat
      · have e2 : (j : Int) = i := by rw [e]; exact k_toN hi0
        rw [if_pos e, if_pos e2]
      · have e2 : ¬ (j : Int) = i := fun z => e (by omega)
        rw [if_neg e, if_neg e2]
    exact k.2 p l e R s m args below meth c Q D cy A0 al0 sc ob al H1 locs1 cells slots LS C G F (k_Dy_wt Y h0 (by rw [hk]; exact (k_gl_cons.mp gs).1) (by rw [k_cell_i hk (by decide) (by decide), ← hu]) hP hD hS) L gl (k_gl_cons.mp (k_gl_cons.mp (k_gl_cons.mp gs).2).2).2⟩
theorem k_bastore {a i x : Int} (hd : decode M.2.1 pc = .ok (.bastore, 1)) (ha : k_isA A a 20 i) (k : k_AW d M (pc + 1) ls st (k_wt A a i (k_b8 x)) r A') : k_AW d M pc ls ((0, x) :: (0, i) :: (1, a) :: st) A r A' :=
  ⟨k.1, fun p l e R s m args below meth c Q D cy A0 al0 sc ob al H locs cells slots LS C G F Y L gl gs => by
    obtain ⟨h0, hN, hk, hi0, hi⟩ := ha
    have gi := (k_gl_cons.mp (k_gl_cons.mp gs).2).1
    obtain ⟨v1, v2⟩ := k_vin gi hi0 hi
    rw [List.map_cons, List.map_cons, List.map_cons, k_ref h0]
    refine va_bast (D := D) (H0 := s.heap) C.1 C.2.1 C.2.2.2.2.2.2.2.2.1 Y.1 Y.2.1 Y.2.2.1 a.toNat 0 ((k_ws_at h0 hN).trans (by rw [k_cell_i hk (by decide) (by decide)])) rfl v1 hd (fun H1 locs1 hP hD hS => ?_)
    rw [v2] at hP hD
    have hu : upd (fun (j : Nat) => Int32.ofInt (k_rd A a j)) i.toNat (vp_nar .byte (Int32.ofInt x)) = fun (j : Nat) => Int32.ofInt (if (j : Int) = i then (k_b8 x) else k_rd A a j) := by
      funext j
      show (if j = i.toNat then _ else _) = _
      by_cases e : j = i.toNat
      · have e2 : (j : Int) = i := by rw [e]; exact k_toN hi0
        rw [if_pos e, if_pos e2]; rw [vp_nar_byte]; exact (Int32.ofInt_toInt _).symm
      · have e2 : ¬ (j : Int) = i := fun z => e (by omega)
        rw [if_neg e, if_neg e2]
    exact k.2 p l e R s m args below meth c Q D cy A0 al0 sc ob al H1 locs1 cells slots LS C G F (k_Dy_wt Y h0 (by rw [hk]; exact k_gi _ _) (by rw [k_cell_i hk (by decide) (by decide), ← hu]) hP hD hS) L gl (k_gl_cons.mp (k_gl_cons.mp (k_gl_cons.mp gs).2).2).2⟩
theorem k_lastore {a i x : Int} (hd : decode M.2.1 pc = .ok (.lastore, 1)) (ha : k_isA A a 22 i) (k : k_AW d M (pc + 1) ls st (k_wt A a i (x)) r A') : k_AW d M pc ls ((2, x) :: (0, i) :: (1, a) :: st) A r A' :=
  ⟨k.1, fun p l e R s m args below meth c Q D cy A0 al0 sc ob al H locs cells slots LS C G F Y L gl gs => by
    obtain ⟨h0, hN, hk, hi0, hi⟩ := ha
    have gi := (k_gl_cons.mp (k_gl_cons.mp gs).2).1
    obtain ⟨v1, v2⟩ := k_vin gi hi0 hi
    rw [List.map_cons, List.map_cons, List.map_cons, k_ref h0]
    refine va_last (D := D) (H0 := s.heap) C.1 C.2.1 C.2.2.2.2.2.2.2.2.1 Y.1 Y.2.1 Y.2.2.1 a.toNat 2 ((k_ws_at h0 hN).trans (by rw [k_cell_l hk])) rfl v1 hd (fun H1 locs1 hP hD hS => ?_)
    rw [v2] at hP hD
    have hu : vp_updL (fun (j : Nat) => Int64.ofInt (k_rd A a j)) i.toNat (Int64.ofInt x) = fun (j : Nat) => Int64.ofInt (if (j : Int) = i then (x) else k_rd A a j) := by
      funext j
      show (if j = i.toNat then _ else _) = _
      by_cases e : j = i.toNat
      · have e2 : (j : Int) = i := by rw [e]; exact k_toN hi0
        rw [if_pos e, if_pos e2]
      · have e2 : ¬ (j : Int) = i := fun z => e (by omega)
        rw [if_neg e, if_neg e2]
    exact k.2 p l e R s m args below meth c Q D cy A0 al0 sc ob al H1 locs1 cells slots LS C G F (k_Dy_wt Y h0 (by rw [hk]; exact (k_gl_cons.mp gs).1) (by rw [k_cell_l hk, ← hu]) hP hD hS) L gl (k_gl_cons.mp (k_gl_cons.mp (k_gl_cons.mp gs).2).2).2⟩
theorem k_aastore {a i x : Int} {K ci : Nat} (hd : decode M.2.1 pc = .ok (.aastore, 1)) (hK : (K = 23 ∧ ci = 1) ∨ (K = 24 ∧ ci = 4)) (ha : k_isA A a K i) (hx : k_isO A x ci) (k : k_AW d M (pc + 1) ls st (k_wt A a i x) r A') : k_AW d M pc ls ((1, x) :: (0, i) :: (1, a) :: st) A r A' :=
  ⟨k.1, fun p l e R s m args below meth c Q D cy A0 al0 sc ob al H locs cells slots LS C G F Y L gl gs => by
    obtain ⟨h0, hN, hk, hi0, hi⟩ := ha
    obtain ⟨x0, xN, xk⟩ := hx
    have gi := (k_gl_cons.mp (k_gl_cons.mp gs).2).1
    have gx := (k_gl_cons.mp gs).1
    obtain ⟨v1, v2⟩ := k_vin gi hi0 hi
    rw [List.map_cons, List.map_cons, List.map_cons, k_ref h0, k_ref x0]
    have hu : va_up (fun (j : Nat) => k_orf al (k_rd A a j)) i.toNat (some (al x)) = fun (j : Nat) => k_orf al (if (j : Int) = i then x else k_rd A a j) := by
      funext j
      show (if j = i.toNat then _ else _) = _
      by_cases e : j = i.toNat
      · have e2 : (j : Int) = i := by rw [e]; exact k_toN hi0
        rw [if_pos e, if_pos e2]; unfold k_orf; rw [if_neg (by omega)]
      · have e2 : ¬ (j : Int) = i := fun z => e (by omega)
        rw [if_neg e, if_neg e2]
    rcases hK with ⟨rfl, rfl⟩ | ⟨rfl, rfl⟩
    · refine va_astq (D := D) (H0 := s.heap) (r := (RX1, TX1, 6)) C.1 C.2.1 C.2.2.2.2.2.2.2.2.1 Y.1 Y.2.1 Y.2.2.1 a.toNat 3 x.toNat 1 ((k_ws_at h0 hN).trans (by rw [k_cell_r hk (by decide)])) rfl ((k_ws_at x0 xN).trans (by rw [k_cell_o xk (by decide)])) rfl v1 hd (fun H1 locs1 hP hD hS => ?_)
      rw [v2] at hP hD
      exact k.2 p l e R s m args below meth c Q D cy A0 al0 sc ob al H1 locs1 cells slots LS C G F (k_Dy_wt Y h0 (by rw [hk]; exact gx) (by rw [k_cell_r hk (by decide), ← hu]) hP hD hS) L gl (k_gl_cons.mp (k_gl_cons.mp (k_gl_cons.mp gs).2).2).2
    · refine va_astq (D := D) (H0 := s.heap) (r := (RX4, TX4, 10)) C.1 C.2.1 C.2.2.2.2.2.2.2.2.1 Y.1 Y.2.1 Y.2.2.1 a.toNat 4 x.toNat 4 ((k_ws_at h0 hN).trans (by rw [k_cell_r hk (by decide)])) rfl ((k_ws_at x0 xN).trans (by rw [k_cell_o xk (by decide)])) rfl v1 hd (fun H1 locs1 hP hD hS => ?_)
      rw [v2] at hP hD
      exact k.2 p l e R s m args below meth c Q D cy A0 al0 sc ob al H1 locs1 cells slots LS C G F (k_Dy_wt Y h0 (by rw [hk]; exact gx) (by rw [k_cell_r hk (by decide), ← hu]) hP hD hS) L gl (k_gl_cons.mp (k_gl_cons.mp (k_gl_cons.mp gs).2).2).2⟩
end
end
section
/-! making cells, copying, calls -/
theorem k_tv_al2 {al al' : Int → Nat} {n : Nat} (h : ∀ a : Int, a < n → al' a = al a) {v : k_V} (g : k_gv n v) : k_tv al' v = k_tv al v := by
  obtain ⟨t, x⟩ := v
  match t, g with
  | 0, _ => rfl
  | 1, g =>
    show va_rf (k_orf al' x) = va_rf (k_orf al x)
    unfold k_orf
    rw [h x g]
  | _ + 2, _ => rfl
theorem k_st_al2 {al al' : Int → Nat} {n : Nat} {st : List k_V} (ha : ∀ a : Int, a < n → al' a = al a) (g : k_gl n st) : st.map (k_tv al') = st.map (k_tv al) := List.map_congr_left fun v hv => k_tv_al2 ha (g v hv)
theorem k_tv_dft (al al' : Int → Nat) (k : Nat) (i : Int) : k_tv al (k_etag k i, k_dft k i) = k_tv al' (k_etag k i, k_dft k i) := by
  unfold k_dft
  by_cases h : k_etag k i = 1
  · rw [if_pos h, h]; rfl
  · rw [if_neg h]
    have := k_etag_lt k i
    match hh : k_etag k i, this with
    | 0, _ => rfl
    | 1, _ => exact absurd hh h
    | 2, _ => rfl
/-- the movable part behind a new cell -/
theorem k_Dy_mk {s : State} {D : va_G} {cy : Nat → ClassId} {A0 : Nat → Prop} {al0 : Int → Nat} {sc : Nat × (Nat → Int32)} {ob : Nat × Nat × Nat} {al : Int → Nat} {A : k_H} {H H1 : Heap} {locs : List Loc} {cells slots k len q : Nat} (Y : k_Dy s D cy A0 al0 sc ob al A H locs cells slots)
    {w : va_E} (hw : w = k_cell cy (fun a => if a = (k_N A : Int) then q else al a) (k, len) (k_dft k)) (hP : va_P D vwCl (k_ws cy al A ++ [(q, w)]) H1) (hD : va_D A0 (k_ws cy al A ++ [(q, w)])) (hS : va_S A0 s.heap H1 locs) : k_Dy s D cy A0 al0 sc ob (fun a => if a = (k_N A : Int) then q else al a) (k_mk A k len) H1 locs (cells + 1) (slots + len) := by
  obtain ⟨-, -, -, yg, ysc, ⟨yc, ys⟩, yn, ya⟩ := Y
  rw [hw, ← k_ws_mk yg] at hP hD
  refine ⟨hP, hD, hS, k_gh_mk yg, ⟨?_, fun j hj => ?_⟩, ⟨?_, ?_⟩, Nat.le_trans yn (Nat.le_succ _), fun a ha => ?_⟩
  · show (if (-2 : Int) = (k_N A : Int) then (k, len) else k_kd A (-2)) = _
    rw [if_neg (by omega)]; exact ysc.1
  · show (if (-2 : Int) = (k_N A : Int) then k_dft k j else k_rd A (-2) j) = _
    rw [if_neg (by omega)]; exact ysc.2 j hj
  · show cells + 1 + ob.2.1 = k_U A + 1
    omega
  · show slots + len + ob.2.2 = k_T A + len
    omega
  · show (if a = (k_N A : Int) then q else al a) = al0 a
    rw [if_neg (by omega)]; exact ya a ha
theorem k_al_mk {A : k_H} {al : Int → Nat} {q : Nat} : ∀ a : Int, a < k_N A → (fun a : Int => if a = (k_N A : Int) then q else al a) a = al a := fun a ha => by
  show (if a = (k_N A : Int) then q else al a) = al a
  rw [if_neg (by omega)]
/-- a class that a method makes -/
def k_NC (own : String) (i ci : Nat) : Prop := ∃ (Cn : String) (Tt : u_T) (Nn : Nat) (ty : Nat → FieldType), k_CI ci Cn Tt Nn ty ∧ Cond.classLink own i Cn ∈ k_GW ∧ Cond.instantiable Cn Nn ∈ k_GW ∧ Cond.initialized Cn ∈ k_GW
section
variable {d : Nat} {M : k_M} {pc : Nat} {ls st : List k_V} {A : k_H} {r : Int} {A' : k_H}
set_option maxHeartbeats 1000000 in
theorem k_new {i ci n : Nat} (hd : decode M.2.1 pc = .ok (.new i, 3)) (hc : k_NC M.1.cls i ci) (hn : (k_ftab.getD ci []).length = n) (k : k_AW d M (pc + 3) ls ((1, k_N A) :: st) (k_mk A ci n) r A') : k_AW d M pc ls st A r A' :=
  ⟨k_le_tr ⟨Nat.le_succ _, Nat.le_succ _, Nat.le_add_right _ _⟩ k.1, fun p l e R s m args below meth c Q D cy A0 al0 sc ob al H locs cells slots LS C G F Y L gl gs => by
    obtain ⟨Cn, Tt, Nn, ty, ⟨c1, c2, c3, c4, c5, c6, c7⟩, w1, w2, w3⟩ := hc
    have e1 : Nn = n := c2.trans hn
    subst e1
    have hU : cells + ob.2.1 = k_U A := Y.2.2.2.2.2.1.1
    have hT : slots + ob.2.2 = k_T A := Y.2.2.2.2.2.1.2
    have kU : k_U A + 1 ≤ k_U A' := k.1.2.1
    have kT : k_T A + Nn ≤ k_T A' := k.1.2.2
    have gU : k_U A' ≤ R.cells + ob.2.1 := G.1
    have gT : k_T A' ≤ R.slots + ob.2.2 := G.2
    refine va_new (D := D) (ci := ci) (fs := (List.range Nn).map fun (j : Nat) => k_tv (fun _ => 0) (k_etag ci j, k_dft ci j)) C.1 C.2.1 C.2.2.2.2.2.1 c4 ty c5 C.2.2.2.2.1 (C.2.2.2.2.2.1 _ w1) (C.2.2.2.2.2.1 _ w2) (C.2.2.2.2.2.1 _ w3) C.2.2.2.2.2.2.2.2.1 Y.1 Y.2.1 Y.2.2.1 C.2.2.2.2.2.2.2.2.2.1 c1 (fun j hj => ?_) (by omega) (by omega) hd (fun q H1 hP hD hS => ?_)
    · rw [c7 j hj]
      unfold vp_V
      rw [List.getD_eq_getElem?_getD, k_fs_get hj]
      rfl
    · have hcell : (.inr (ci, (List.range Nn).map fun (j : Nat) => k_tv (fun _ => 0) (k_etag ci j, k_dft ci j)) : va_E) = k_cell cy (fun a => if a = (k_N A : Int) then q else al a) (ci, Nn) (k_dft ci) := by
        rw [k_cell_o (ci := ci) rfl c3, ← c2]
        congr 2
        exact List.map_congr_left fun j _ => k_tv_dft _ _ _ _
      have w := k.2 p l e R s m args below meth c Q D cy A0 al0 sc ob _ H1 locs (cells + 1) (slots + Nn) LS C G F (k_Dy_mk Y hcell hP hD hS) (k_lo_al L k_al_mk gl) (k_gl_mono (Nat.le_succ _) gl) (k_gl_cons.mpr ⟨by show ((k_N A : Nat) : Int) < ((k_N A + 1 : Nat) : Int); omega, k_gl_mono (Nat.le_succ _) gs⟩)
      rw [List.map_cons, k_st_al2 k_al_mk gs, k_ref (by omega)] at w
      rw [if_pos rfl] at w
      exact w⟩
end
theorem k_RA_eq {s : State} {a b : ClassId} {ty : FieldType} (h1 : va_RA s a ty) (h2 : va_RA s b ty) : a = b := by
  cases ty with
  | object C =>
    obtain ⟨_, _, -, -, -, h4⟩ := h1
    obtain ⟨_, _, -, -, -, g4⟩ := h2
    exact Option.some.inj (h4.symm.trans g4)
  | _ => exact Option.some.inj (Eq.trans (Eq.symm h1) h2)
/-- kinds of rows of numbers: the machine's type, the kind -/
def k_AT (at_ : ArrayType) (K t0 : Nat) (ty : FieldType) : Prop := newarray.typeOf at_ = ty ∧ Cond.arrayClass ty ∈ k_GW ∧ (∀ cy : Nat → ClassId, (k_TY cy)[t0]? = some (cy K, ty)) ∧ componentBytes ty ≤ 8 ∧ ∀ (cy : Nat → ClassId) (al : Int → Nat) (n : Nat), ∃ a0 : vp_A, k_cell cy al (K, n) (k_dft K) = .inl (cy K, a0) ∧ ∀ cA : ClassId, vp_cell cA a0 = arrV cA n (fun _ => defaultValue ty)

theorem k_atI : k_AT .int 21 1 .int := ⟨rfl, k_gt 47 (by decide +kernel) (by decide +kernel), fun _ => rfl, by decide, fun cy al n => ⟨(n, .inl (fun (i : Nat) => Int32.ofInt (k_dft 21 i))), rfl, fun _ => rfl⟩⟩
theorem k_atB : k_AT .byte 20 0 .byte := ⟨rfl, k_gt 730 (by decide +kernel) (by decide +kernel), fun _ => rfl, by decide, fun cy al n => ⟨(n, .inl (fun (i : Nat) => Int32.ofInt (k_dft 20 i))), rfl, fun _ => rfl⟩⟩
theorem k_atL : k_AT .long 22 2 .long := ⟨rfl, k_gt 998 (by decide +kernel) (by decide +kernel), fun _ => rfl, by decide, fun cy al n => ⟨(n, .inr (.inl (fun (i : Nat) => Int64.ofInt (k_dft 22 i)))), rfl, fun _ => rfl⟩⟩
section
variable {d : Nat} {M : k_M} {pc : Nat} {ls st : List k_V} {A : k_H} {r : Int} {A' : k_H}
set_option maxHeartbeats 1000000 in
theorem k_newa {at_ : ArrayType} {K t0 : Nat} {ty : FieldType} {x : Int} {n : Nat} (hd : decode M.2.1 pc = .ok (.newarray at_, 2)) (ha : k_AT at_ K t0 ty) (hx : x = (n : Int)) (hn : n ≤ 1000000) (k : k_AW d M (pc + 2) ls ((1, k_N A) :: st) (k_mk A K n) r A') : k_AW d M pc ls ((0, x) :: st) A r A' :=
  ⟨k_le_tr ⟨Nat.le_succ _, Nat.le_succ _, Nat.le_add_right _ _⟩ k.1, fun p l e R s m args below meth c Q D cy A0 al0 sc ob al H locs cells slots LS C G F Y L gl gs => by
    obtain ⟨h1, h2, h3, h4, h5⟩ := ha
    have hU : cells + ob.2.1 = k_U A := Y.2.2.2.2.2.1.1
    have hT : slots + ob.2.2 = k_T A := Y.2.2.2.2.2.1.2
    have kU : k_U A + 1 ≤ k_U A' := k.1.2.1
    have kT : k_T A + n ≤ k_T A' := k.1.2.2
    have gU : k_U A' ≤ R.cells + ob.2.1 := G.1
    have gT : k_T A' ≤ R.slots + ob.2.2 := G.2
    have gx := k_i0 (k_gl_cons.mp gs).1
    obtain ⟨a0, ec, hv⟩ := h5 cy (fun _ => 0) n
    have hb : n * componentBytes ty ≤ 536870912 := Nat.le_trans (Nat.mul_le_mul hn h4) (by decide)
    rw [List.map_cons]
    refine va_newa (D := D) (ty := ty) (a0 := a0) C.1 C.2.1 (by rw [h1]; exact C.2.2.2.2.2.1 _ h2) h1 C.2.2.2.2.2.2.2.2.1 Y.1 Y.2.1 Y.2.2.1 C.2.2.2.2.2.2.2.2.2.1 hv ?_ ?_ hb (by omega) (by omega) hd (fun q cA H1 hK hP hD hS => ?_)
    · show ¬ Int32.ofInt x < 0
      rw [Int32.lt_iff_toInt_lt, gx, Int32.toInt_zero]; omega
    · show (Int32.ofInt x).toNatClampNeg = n
      rw [← Int32.toNat_toInt, gx]; omega
    · have e1 : cA = cy K := k_RA_eq (hK.2 5 (cA, ty) rfl).2 (C.2.2.2.2.2.2.2.2.1.2 t0 _ (h3 cy)).2
      subst e1
      have hcell : (.inl (cy K, a0) : va_E) = k_cell cy (fun a => if a = (k_N A : Int) then q else al a) (K, n) (k_dft K) := by
        rw [← ec]
        exact (k_cell_al (n := 0) (k := (K, n)) (fun a ha => rfl) (fun i => k_dft_gv _ _ _)).symm.trans (by
          unfold k_cell
          split
          · congr 2
            exact List.map_congr_left fun j _ => k_tv_dft _ _ _ _
          · congr 3
            split
            · rfl
            · split
              · rfl
              · rename_i h20 h22 h23
                congr 4
                funext j
                have e : k_dft K j = -1 := by
                  unfold k_dft
                  have : k_etag K j = 1 := by
                    unfold k_etag
                    rw [if_neg h20, if_neg h22, if_neg h23]
                  rw [if_pos this]
                rw [e]; rfl)
      have w := k.2 p l e R s m args below meth c Q D cy A0 al0 sc ob _ H1 locs (cells + 1) (slots + n) LS C G F (k_Dy_mk Y hcell hP hD hS) (k_lo_al L k_al_mk gl) (k_gl_mono (Nat.le_succ _) gl) (k_gl_cons.mpr ⟨by show ((k_N A : Nat) : Int) < ((k_N A + 1 : Nat) : Int); omega, k_gl_mono (Nat.le_succ _) (k_gl_cons.mp gs).2⟩)
      rw [List.map_cons, k_st_al2 k_al_mk (k_gl_cons.mp gs).2, k_ref (by omega)] at w
      rw [if_pos rfl] at w
      exact w⟩
set_option maxHeartbeats 1000000 in
theorem k_anewa {i K t0 : Nat} {x : Int} {n : Nat} {Cn : String} (hd : decode M.2.1 pc = .ok (.anewarray i, 3)) (hK0 : (K = 23 ∧ t0 = 3 ∧ Cn = RX1) ∨ (K = 24 ∧ t0 = 4 ∧ Cn = RX4)) (hw : Cond.classLink M.1.cls i Cn ∈ k_GW) (hx : x = (n : Int)) (hn : n ≤ 1000000) (k : k_AW d M (pc + 3) ls ((1, k_N A) :: st) (k_mk A K n) r A') : k_AW d M pc ls ((0, x) :: st) A r A' :=
  ⟨k_le_tr ⟨Nat.le_succ _, Nat.le_succ _, Nat.le_add_right _ _⟩ k.1, fun p l e R s m args below meth c Q D cy A0 al0 sc ob al H locs cells slots LS C G F Y L gl gs => by
    have hU : cells + ob.2.1 = k_U A := Y.2.2.2.2.2.1.1
    have hT : slots + ob.2.2 = k_T A := Y.2.2.2.2.2.1.2
    have kU : k_U A + 1 ≤ k_U A' := k.1.2.1
    have kT : k_T A + n ≤ k_T A' := k.1.2.2
    have gU : k_U A' ≤ R.cells + ob.2.1 := G.1
    have gT : k_T A' ≤ R.slots + ob.2.2 := G.2
    have gx := k_i0 (k_gl_cons.mp gs).1
    have hao : va_AO Cn s := by
      rcases hK0 with ⟨-, -, rfl⟩ | ⟨-, -, rfl⟩
      · exact C.2.2.2.2.2.2.2.2.2.2.2.2.2.1
      · exact C.2.2.2.2.2.2.2.2.2.2.2.2.2.2.1
    rw [List.map_cons]
    refine va_newq (D := D) C.1 C.2.1 C.2.2.2.2.1 (C.2.2.2.2.2.1 _ hw) hao C.2.2.2.2.2.2.2.2.1 Y.1 Y.2.1 Y.2.2.1 C.2.2.2.2.2.2.2.2.2.1 ?_ ?_ (Nat.le_trans (Nat.mul_le_mul_right 4 hn) (by decide)) (by omega) (by omega) hd (fun q cA H1 hK hP hD hS => ?_)
    · show ¬ Int32.ofInt x < 0
      rw [Int32.lt_iff_toInt_lt, gx, Int32.toInt_zero]; omega
    · show (Int32.ofInt x).toNatClampNeg = n
      rw [← Int32.toNat_toInt, gx]; omega
    · have e1 : cA = cy K := by
        refine k_RA_eq (hK.2 5 (cA, .object Cn) rfl).2 (C.2.2.2.2.2.2.2.2.1.2 t0 (cy K, .object Cn) ?_).2
        rcases hK0 with ⟨rfl, rfl, rfl⟩ | ⟨rfl, rfl, rfl⟩ <;> rfl
      subst e1
      have hcell : (.inl (cy K, n, .inr (.inr (.inr (.inr (fun _ => none))))) : va_E) = k_cell cy (fun a => if a = (k_N A : Int) then q else al a) (K, n) (k_dft K) := by
        rcases hK0 with ⟨rfl, rfl, rfl⟩ | ⟨rfl, rfl, rfl⟩ <;> rfl
      have w := k.2 p l e R s m args below meth c Q D cy A0 al0 sc ob _ H1 locs (cells + 1) (slots + n) LS C G F (k_Dy_mk Y hcell hP hD hS) (k_lo_al L k_al_mk gl) (k_gl_mono (Nat.le_succ _) gl) (k_gl_cons.mpr ⟨by show ((k_N A : Nat) : Int) < ((k_N A + 1 : Nat) : Int); omega, k_gl_mono (Nat.le_succ _) (k_gl_cons.mp gs).2⟩)
      rw [List.map_cons, k_st_al2 k_al_mk (k_gl_cons.mp gs).2, k_ref (by omega)] at w
      rw [if_pos rfl] at w
      exact w⟩
end
/-- words on the stack -/
def k_sw : List k_V → Nat
  | [] => 0
  | v :: l => (if v.1 = 2 then 2 else if v.1 < 2 then 1 else 9) + k_sw l
theorem k_sw_ok (al : Int → Nat) : ∀ st : List k_V, ((st.map (k_tv al)).map fun v => v.category).sum ≤ k_sw st := by
  intro st
  induction st with
  | nil => exact Nat.le_refl _
  | cons v l ih =>
    rw [List.map_cons, List.map_cons, List.sum_cons, k_sw]
    refine Nat.add_le_add ?_ ih
    by_cases h : v.1 < 3
    · rw [k_cat al v h]
      split
      · exact Nat.le_refl _
      · split <;> omega
    · rw [if_neg (by omega), if_neg (by omega)]
      have := lv_cat (k_tv al v)
      omega
/-- a row copied into another -/
def k_cp (A : k_H) (a0 sp a dp n : Int) : k_H := (A.1, A.2.1, fun b j => if b = a ∧ dp ≤ j ∧ j < dp + n then A.2.2 a0 (sp + (j - dp)) else A.2.2 b j)
theorem k_ws_cp {cy : Nat → ClassId} {al : Int → Nat} {A : k_H} {a0 sp a dp n : Int} (h0 : 0 ≤ a) : k_ws cy al (k_cp A a0 sp a dp n) = (k_ws cy al A).set a.toNat (al a, k_cell cy al (k_kd A a) (fun j => if dp ≤ j ∧ j < dp + n then k_rd A a0 (sp + (j - dp)) else k_rd A a j)) := by
  obtain ⟨b, rfl⟩ := Int.eq_ofNat_of_zero_le h0
  refine List.ext_getElem? fun q => ?_
  rw [List.getElem?_set]
  by_cases hn : q < k_N A
  · have e1 : (k_ws cy al (k_cp A a0 sp b dp n))[q]? = some (al q, k_cell cy al (k_kd A q) (k_rd (k_cp A a0 sp b dp n) q)) := by
      have : q < k_N (k_cp A a0 sp b dp n) := hn
      simp [k_ws, this]
      rfl
    rw [e1]
    by_cases hb : b = q
    · subst hb
      simp only [Int.toNat_natCast, if_true, k_ws_len, hn]
      have : k_rd (k_cp A a0 sp b dp n) b = fun j => if dp ≤ j ∧ j < dp + n then k_rd A a0 (sp + (j - dp)) else k_rd A b j := by
        funext j
        simp [k_rd, k_cp]
      rw [this]
    · have e2 : (k_ws cy al A)[q]? = some (al q, k_cell cy al (k_kd A q) (k_rd A q)) := by simp [k_ws, hn]
      have e3 : k_rd (k_cp A a0 sp b dp n) q = k_rd A q := by
        funext j
        have : ¬ ((q : Int) = b ∧ dp ≤ j ∧ j < dp + n) := by omega
        simp [k_rd, k_cp, this]
      rw [if_neg (by simpa using hb), e2, e3]
  · have e1 : (k_ws cy al (k_cp A a0 sp b dp n))[q]? = none := by
      rw [List.getElem?_eq_none]
      rw [k_ws_len]
      exact Nat.not_lt.mp hn
    have e2 : (k_ws cy al A)[q]? = none := by
      rw [List.getElem?_eq_none]
      rw [k_ws_len]
      exact Nat.not_lt.mp hn
    rw [e1, e2]
    split
    · rename_i hb
      rw [if_neg]
      rw [k_ws_len]
      simp at hb
      omega
    · rfl
end
section
/-! copying, calls -/
theorem k_ac1 : Cond.native arraycopyName ∈ k_GW := k_gt 450 (by decide +kernel) (by decide +kernel)
theorem k_ac2 : Cond.static arraycopyName ∈ k_GW := k_gt 449 (by decide +kernel) (by decide +kernel)
theorem k_ac3 : Cond.initialized "java/lang/System" ∈ k_GW := k_gt 13 (by decide +kernel) (by decide +kernel)
theorem k_oi1 : Cond.instanceMethod Lib.objectInit ∈ k_GW := k_gt 29 (by decide +kernel) (by decide +kernel)
theorem k_oi2 : Cond.code Lib.objectInit ⟨#[0xb1]⟩ 1 none ∈ k_GW := k_gt 30 (by decide +kernel) (by decide +kernel)
section
variable {d : Nat} {M : k_M} {pc : Nat} {ls st : List k_V} {A : k_H} {r : Int} {A' : k_H}
theorem k_objInit {i : Nat} {a : Int} (hd : decode M.2.1 pc = .ok (.invokespecial i, 3)) (hw : Cond.methodLink M.1.cls i Lib.objectInit ∈ k_GW) (h1 : 1 ≤ d) (ha : 0 ≤ a) (hs : k_sw st ≤ 8) (k : k_AW d M (pc + 3) ls st A r A') : k_AW d M pc ls ((1, a) :: st) A r A' :=
  ⟨k.1, fun p l e R s m args below meth c Q D cy A0 al0 sc ob al H locs cells slots LS C G F Y L gl gs => by
    rw [List.map_cons, k_ref ha]
    have hR1 := C.2.2.2.2.2.2.2.2.2.2.1
    have hR2 := C.2.2.2.2.2.2.2.2.2.2.2.1
    refine W.objInit C.1 C.2.1 C.2.2.2.2.1 (C.2.2.2.2.2.1 _ hw) (C.2.2.2.2.2.1 _ k_oi1) (C.2.2.2.2.2.1 _ k_oi2) rfl (by rw [C.2.2.1]; exact L.1) rfl hd (by omega) ?_ ?_
    · have := k_sw_ok al st
      show 2 * 0 + _ + 12 ≤ _
      omega
    · exact k.2 p l e R s m args below meth c Q D cy A0 al0 sc ob al H locs cells slots LS C G F Y L gl (k_gl_cons.mp gs).2⟩
set_option maxHeartbeats 1000000 in
theorem k_copy {i : Nat} {a0 sp a dp n : Int} (hd : decode M.2.1 pc = .ok (.invokestatic i, 3)) (hw : Cond.methodLink M.1.cls i arraycopyName ∈ k_GW) (hd1 : 1 ≤ d) (hs : k_sw st ≤ 8) (h0 : k_isR A a0 21) (h1 : k_isR A a 21) (g0 : 0 ≤ sp) (g1 : 0 ≤ dp) (g2 : 0 ≤ n) (g3 : sp + n ≤ (k_kd A a0).2) (g4 : dp + n ≤ (k_kd A a).2) (k : k_AW d M (pc + 3) ls st (k_cp A a0 sp a dp n) r A') : k_AW d M pc ls ((0, n) :: (0, dp) :: (1, a) :: (0, sp) :: (1, a0) :: st) A r A' :=
  ⟨k.1, fun p l e R s m args below meth c Q D cy A0 al0 sc ob al H locs cells slots LS C G F Y L gl gs => by
    obtain ⟨x0, x1, x2⟩ := h0
    obtain ⟨y0, y1, y2⟩ := h1
    have s1 := k_gl_cons.mp gs
    have s2 := k_gl_cons.mp s1.2
    have s3 := k_gl_cons.mp s2.2
    have s4 := k_gl_cons.mp s3.2
    have s5 := k_gl_cons.mp s4.2
    have en := k_i0 s1.1
    have ed := k_i0 s2.1
    have es := k_i0 s4.1
    have cn : (Int32.ofInt n).toNatClampNeg = n.toNat := by rw [← Int32.toNat_toInt, en]
    have cd : (Int32.ofInt dp).toNatClampNeg = dp.toNat := by rw [← Int32.toNat_toInt, ed]
    have cs : (Int32.ofInt sp).toNatClampNeg = sp.toNat := by rw [← Int32.toNat_toInt, es]
    have hR1 := C.2.2.2.2.2.2.2.2.2.2.1
    have hR2 := C.2.2.2.2.2.2.2.2.2.2.2.1
    rw [List.map_cons, List.map_cons, List.map_cons, List.map_cons, List.map_cons, k_ref x0, k_ref y0]
    refine va_copyi (D := D) (H0 := s.heap) (ty := .int) C.1 C.2.1 (by rw [C.2.2.1]; exact L.1.symm) C.2.2.2.2.1 (C.2.2.2.2.2.1 _ hw) (C.2.2.2.2.2.1 _ k_ac1) (C.2.2.2.2.2.1 _ k_ac2) (C.2.2.2.2.2.1 _ k_ac3) C.2.2.2.2.2.2.2.2.1 Y.1 Y.2.1 Y.2.2.1 a0.toNat a.toNat 1 1 ((k_ws_at x0 x1).trans (by rw [k_cell_i x2 (by decide) (by decide)])) ((k_ws_at y0 y1).trans (by rw [k_cell_i y2 (by decide) (by decide)])) rfl rfl rfl ?_ ?_ ?_ ?_ ?_ (fun _ _ => rfl) (by omega) ?_ hd (fun H1 locs1 hP hD hS => ?_)
    · show ¬ Int32.ofInt sp < 0
      rw [Int32.lt_iff_toInt_lt, es, Int32.toInt_zero]; omega
    · show ¬ Int32.ofInt dp < 0
      rw [Int32.lt_iff_toInt_lt, ed, Int32.toInt_zero]; omega
    · show ¬ Int32.ofInt n < 0
      rw [Int32.lt_iff_toInt_lt, en, Int32.toInt_zero]; omega
    · show (Int32.ofInt sp).toNatClampNeg + (Int32.ofInt n).toNatClampNeg ≤ _
      rw [cs, cn]; omega
    · show (Int32.ofInt dp).toNatClampNeg + (Int32.ofInt n).toNatClampNeg ≤ _
      rw [cd, cn]; omega
    · have := k_sw_ok al st
      have e9 : nativeFrameWords "java/lang/System" "arraycopy" 5 = 7 := by decide +kernel
      rw [e9]
      omega
    · have hu : va_cpy (fun (j : Nat) => Int32.ofInt (k_rd A a0 j)) (fun (j : Nat) => Int32.ofInt (k_rd A a j)) (Int32.ofInt sp).toNatClampNeg (Int32.ofInt dp).toNatClampNeg (Int32.ofInt n).toNatClampNeg = fun (j : Nat) => Int32.ofInt (if dp ≤ (j : Int) ∧ (j : Int) < dp + n then k_rd A a0 (sp + ((j : Int) - dp)) else k_rd A a j) := by
        rw [cs, cd, cn]
        funext j
        unfold va_cpy
        by_cases h : dp ≤ (j : Int) ∧ (j : Int) < dp + n
        · have h2 : dp.toNat ≤ j ∧ j < dp.toNat + n.toNat := by omega
          rw [if_pos h, if_pos h2]
          have e : ((sp.toNat + (j - dp.toNat) : Nat) : Int) = sp + ((j : Int) - dp) := by omega
          show Int32.ofInt (k_rd A a0 ((sp.toNat + (j - dp.toNat) : Nat) : Int)) = _
          rw [e]
        · have h2 : ¬ (dp.toNat ≤ j ∧ j < dp.toNat + n.toNat) := by omega
          rw [if_neg h, if_neg h2]
      have hw2 : ((al a, .inl (cy 21, (k_kd A a).2, .inl (va_cpy (fun (j : Nat) => Int32.ofInt (k_rd A a0 j)) (fun (j : Nat) => Int32.ofInt (k_rd A a j)) (Int32.ofInt sp).toNatClampNeg (Int32.ofInt dp).toNatClampNeg (Int32.ofInt n).toNatClampNeg))) : Nat × va_E) = (al a, k_cell cy al (k_kd A a) (fun j => if dp ≤ j ∧ j < dp + n then k_rd A a0 (sp + (j - dp)) else k_rd A a j)) := by
        rw [k_cell_i y2 (by decide) (by decide), hu]
      rw [hw2, ← k_ws_cp y0] at hP hD
      obtain ⟨-, -, -, yg, ysc, yc, yn, ya⟩ := Y
      refine k.2 p l e R s m args below meth c Q D cy A0 al0 sc ob al H1 locs1 cells slots LS C G F ⟨hP, hD, hS, fun b j hb0 hb1 => ?_, ⟨ysc.1, fun j hj => ?_⟩, yc, yn, ya⟩ L gl s5.2
      · show k_gv (k_N A) (k_etag (k_kd A b).1 j, if b = a ∧ dp ≤ j ∧ j < dp + n then k_rd A a0 (sp + (j - dp)) else k_rd A b j)
        split
        · rename_i hh
          have g9 := yg a0 (sp + (j - dp)) x0 x1
          rw [x2] at g9
          rw [hh.1, y2]
          exact g9
        · exact yg b j hb0 hb1
      · show (if (-2 : Int) = a ∧ dp ≤ (j : Int) ∧ (j : Int) < dp + n then _ else k_rd A (-2) j) = _
        rw [if_neg (by omega)]
        exact ysc.2 j hj⟩
end
/-- what a call leaves on the stack -/
def k_ps (M : k_M) (r : Int) : List k_V := match M.2.2.2 with
  | none => []
  | some _ => [(0, r)]
set_option maxHeartbeats 1000000 in
/-- behind a call -/
theorem k_after {d : Nat} {M M1 : k_M} {pc : Nat} {ls st st1 : List k_V} {A A1 : k_H} {r r1 : Int} {A' : k_H} {p : Program} {l : Launch} {e : Env} {R : Room} {s : State} {m : MethodId} {args : Array Value} {below : List Frame} {meth : Method} {c : Code} {Q : State → Prop} {D : va_G} {cy : Nat → ClassId} {A0 : Nat → Prop} {al0 : Int → Nat} {sc : Nat × (Nat → Int32)} {ob : Nat × Nat × Nat} {al : Int → Nat} {H : Heap} {locs : List Loc} {cells slots : Nat} {LS : Array Slot} {st0 : List Value} {vs : Array Value}
    (hle : k_le A A1) (hst : k_ps M1 r1 ++ st = st1) (k : k_AW d M (pc + 3) ls st1 A1 r A') (C : k_Cx d M p R s m args meth c D cy A0 al0 sc) (G : k_Rm R ob A') (F : k_Fin M p l e R s m args below meth c Q D cy A0 al0 sc ob r A') (Y : k_Dy s D cy A0 al0 sc ob al A H locs cells slots) (L : k_lo al M.2.2.1 ls LS) (gl : k_gl (k_N A) ls) (gs : k_gl (k_N A) st)
    (hr : va_Run p l e R s m args below meth c H locs cells slots (k_U A1 - k_U A) (k_T A1 - k_T A) (F0 m pc LS st0) (st.map (k_tv al)) (k_Qc M1 A D cy al sc H.size r1 A1 vs) (va_A (k_ws cy al A) H.size)) : W p l e R s m args below meth c H locs cells slots Q (F0 m pc LS st0) := by
  intro T hT X
  obtain ⟨v, st₀, t, T', L', h0, X', hL, e1, e2, ⟨⟨al1, ha1, hv, hP1, hD1, g1, sc1, gr1⟩, hz, hk⟩, stp⟩ := hr T hT X
  obtain ⟨yP, yD, yS, yg, ysc, ⟨yc, ys⟩, yn, ya⟩ := Y
  have hfree : ∀ q, va_A (k_ws cy al A) H.size q → A0 q := by
    intro q hq
    rcases hq with ⟨i, w, hi⟩ | hq
    · exact yD.2 i _ hi
    · exact C.2.2.2.2.2.2.2.2.2.1 q (Nat.le_trans yS.1 hq)
  rw [h0] at hz hk
  have hv : v = k_rv M1 r1 := by cases hv; rfl
  have hstk : v.toList ++ st.map (k_tv al) = st1.map (k_tv al1) := by
    rw [← hst, List.map_append, k_st_al2 ha1 gs, hv]
    unfold k_rv k_ps
    cases M1.2.2.2 <;> rfl
  have w := k.2 p l e R s m args below meth c Q D cy A0 al0 sc ob al1 T'.heap (locs ++ L') (cells + (k_U A1 - k_U A)) (slots + (k_T A1 - k_T A)) LS C G F
    ⟨by rw [e1]; exact hP1, hD1.weaken (fun _ q _ h => hfree q.1 h), ⟨Nat.le_trans yS.1 (by rw [e1]; exact hz), fun q h1 h2 => by rw [e1, hk q (Nat.lt_of_lt_of_le h1 yS.1) (fun z => h2 (hfree q z))]; exact yS.2.1 q h1 h2, fun q hq => by
      rcases List.mem_append.mp hq with h | h
      · exact yS.2.2 q h
      · exact hfree _ (hL q h)⟩, g1, sc1, ⟨by have := hle.2.1; omega, by have := hle.2.2; omega⟩, Nat.le_trans yn hle.1, fun a ha => by rw [ha1 a (by omega)]; exact ya a ha⟩
    (k_lo_al L ha1 gl) (k_gl_mono hle.1 gl) (by
      rw [← hst]
      refine k_gl_app.mpr ⟨?_, k_gl_mono hle.1 gs⟩
      unfold k_ps
      cases M1.2.2.2 with
      | none => exact k_gl_nil
      | some _ => exact k_gl_cons.mpr ⟨gr1, k_gl_nil⟩) T' rfl X'
  obtain ⟨t2, a1, b1⟩ := w
  refine ⟨t2, stp t2 ?_, b1⟩
  show Steps p.tables e below (T'.setTop { F0 m pc LS st0 with pc := pc + 3, stack := v.toList ++ st.map (k_tv al) }) t2
  rw [hstk]
  exact a1
/-- a call's words -/
def k_CB (M1 : k_M) (n : Nat) : Prop := Cond.code M1.1 M1.2.1 M1.2.2.1 M1.2.2.2 ∈ k_GW ∧ Cond.initialized M1.1.cls ∈ k_GW ∧ (M1.1.cls ≠ "java/lang/invoke/MethodHandle" ∧ M1.1.cls ≠ "java/lang/invoke/VarHandle") ∧ (parseMethodDescriptor M1.1.desc).map (fun d => d.parameters.length) = some n ∧ M1.2.2.1 ≤ 31
theorem k_pay {s : State} {args : Array Value} (hts : ∀ w ∈ k_GW, w.before args s = true) {M1 : k_M} {n : Nat} (hb : k_CB M1 n) : ∀ w ∈ (Cond.code M1.1 M1.2.1 M1.2.2.1 M1.2.2.2 :: k_GW), ∀ (a' : Array Value) (U : State), s.WarmedH U.vm → w.before a' U = true := by
  intro w hw a' U hW
  have hw : w ∈ k_GW := by
    rcases List.mem_cons.mp hw with h | h
    · rw [h]; exact hb.1
    · exact h
  exact word_at hW (good_of_word (List.mem_filter.mp hw).2) (hts w hw)
theorem k_prm {M1 : k_M} {n : Nat} (hb : k_CB M1 n) : ∀ sig, parseMethodDescriptor M1.1.desc = some sig → n = sig.parameters.length := by
  intro sig h
  have h2 := hb.2.2.2.1
  rw [h] at h2
  exact (Option.some.inj h2).symm
theorem k_blind {as : List k_V} {A : k_H} {D : va_G} {cy : Nat → ClassId} {al0 : Int → Nat} {sc : Nat × (Nat → Int32)} {sz : Nat} : FrameBlind (k_Pc as A D cy al0 sc sz) := by
  intro a U g mk h
  obtain ⟨h1, h2, h3, h4, h5, h6, h7, h8, h9⟩ := h
  exact ⟨h1, h2, h3, h4, va_K.moved (u := U) (U := U.calling g mk a) (Vm.Alike.refl U.vm) h5, h6, h7, h8, h9.calling⟩
theorem k_entry {d : Nat} {M : k_M} {p : Program} {R : Room} {s : State} {m : MethodId} {args : Array Value} {meth : Method} {c : Code} {D : va_G} {cy : Nat → ClassId} {A0 : Nat → Prop} {al0 : Int → Nat} {sc : Nat × (Nat → Int32)} {ob : Nat × Nat × Nat} {al : Int → Nat} {A : k_H} {H : Heap} {locs : List Loc} {cells slots : Nat} {as : List k_V}
    (C : k_Cx d M p R s m args meth c D cy A0 al0 sc) (Y : k_Dy s D cy A0 al0 sc ob al A H locs cells slots) (ga : k_gl (k_N A) as) : ∀ U : State, U.heap = H → s.WarmedH U.vm → k_Pc as A D cy al sc H.size (as.map (k_tv al)).toArray U := by
  intro U hU hW
  obtain ⟨yP, yD, yS, yg, ysc, ⟨yc, ys⟩, yn, ya⟩ := Y
  have hfree : ∀ q, va_A (k_ws cy al A) H.size q → A0 q := by
    intro q hq
    rcases hq with ⟨i, w, hi⟩ | hq
    · exact yD.2 i _ hi
    · exact C.2.2.2.2.2.2.2.2.2.1 q (Nat.le_trans yS.1 hq)
  exact ⟨rfl, by rw [hU], by rw [hU]; exact yP, yD.weaken (fun _ _ _ _ => trivial), va_K.moved hW.alike C.2.2.2.2.2.2.2.2.1, yg, ga, ysc, C.2.2.2.2.2.2.2.2.2.2.2.2.move (fun a ha => ya a (by omega)) yS hU hW hfree⟩
section
variable {d d1 : Nat} {M M1 : k_M} {pc : Nat} {ls st st1 : List k_V} {A A1 : k_H} {r r1 : Int} {A' : k_H}
set_option maxHeartbeats 1000000 in
theorem k_callV {i n : Nat} {ci : Nat} {a : Int} {as : List k_V} {Tt : u_T} {Nn : Nat} (hd : decode M.2.1 pc = .ok (.invokevirtual i, 3)) (hb : k_CB M1 n) (hl : Cond.methodLink M.1.cls i M1.1 ∈ k_GW) (hi : Cond.instanceMethod M1.1 ∈ k_GW) (hse : Cond.selects M1.1.cls M1.1 M1.1 ∈ k_GW) (hc : vwCl[ci]? = some (M1.1.cls, Tt, Nn)) (hci : ci < 20) (ha : k_isO A a ci) (hdep : d1 + 1 ≤ d) (hn : as.length = n) (hs : k_sw st ≤ 8) (hA : k_AM d1 M1 ((1, a) :: as) A r1 A1) (hst : k_ps M1 r1 ++ st = st1) (k : k_AW d M (pc + 3) ls st1 A1 r A') : k_AW d M pc ls (as.reverse ++ (1, a) :: st) A r A' :=
  ⟨k_le_tr hA.1 k.1, fun p l e R s m args below meth c Q D cy A0 al0 sc ob al H locs cells slots LS C G F Y L gl gs => by
    have hU : cells + ob.2.1 = k_U A := Y.2.2.2.2.2.1.1
    have hT : slots + ob.2.2 = k_T A := Y.2.2.2.2.2.1.2
    have kU := k.1.2.1
    have kT := k.1.2.2
    have aU := hA.1.2.1
    have aT := hA.1.2.2
    have gU : k_U A' ≤ R.cells + ob.2.1 := G.1
    have gT : k_T A' ≤ R.slots + ob.2.2 := G.2
    have hR1 := C.2.2.2.2.2.2.2.2.2.2.1
    have hR2 := C.2.2.2.2.2.2.2.2.2.2.2.1
    have hm31 := hb.2.2.2.2
    have hsum := k_sw_ok al st
    have hts := C.2.2.2.2.2.1
    have ha0 := ha.1
    have gs1 : k_gl (k_N A) as.reverse ∧ k_gl (k_N A) ((1, a) :: st) := k_gl_app.mp gs
    have gst := (k_gl_cons.mp gs1.2).2
    have gas := k_gl_cons.mpr ⟨(k_gl_cons.mp gs1.2).1, k_gl_rev.mp gs1.1⟩
    have estk : ((as.reverse ++ (1, a) :: st).map (k_tv al)) = (as.map (k_tv al)).reverse ++ .ref (al a) :: st.map (k_tv al) := by rw [List.map_append, List.map_cons, List.map_reverse, k_ref ha0]
    have eargs : (((1, a) :: as).map (k_tv al)).toArray = (Value.ref (al a) :: as.map (k_tv al)).toArray := by rw [List.map_cons, k_ref ha0]
    have hent := k_entry (as := (1, a) :: as) C Y gas
    rw [eargs] at hent
    rw [estk]
    have hfr : d1 + 1 ≤ R.frames := by omega
    have hlo : 8 + (M1.2.2.1 + 11) + 50 * d1 ≤ R.locals := by omega
    have hce : cells + (k_U A1 - k_U A) ≤ R.cells := by omega
    have hsl : slots + (k_T A1 - k_T A) ≤ R.slots := by omega
    exact k_after hA.1 hst k C G F Y L gl gst (va_runV (As := as.map (k_tv al)) (rest := st.map (k_tv al)) ⟨C.1, C.2.1, C.2.2.1, C.2.2.2.2.1, hts⟩ (hA.2 l D cy al sc H.size) (C := M1.1.cls) ⟨⟨rfl, rfl, hfr, hlo, k_pay hts hb, List.mem_cons_self, hts _ hb.1, hts _ hb.2.1, hb.2.2.1, k_prm hb, hts _ hl⟩, hts _ hi, hts _ hse⟩ ⟨k_blind, va_recv C.2.2.2.2.2.2.2.2.1 Y.1 hc ((k_ws_at ha.1 ha.2.1).trans (by rw [k_cell_o ha.2.2 hci])), hent⟩ rfl (by rw [List.length_map]; exact hn) L.1 rfl (by show 2 * 0 + _ ≤ 8; omega) hd ⟨hce, hsl⟩)⟩
set_option maxHeartbeats 1000000 in
theorem k_callI {i n : Nat} {a : Int} {as : List k_V} (hd : decode M.2.1 pc = .ok (.invokespecial i, 3)) (hb : k_CB M1 n) (hl : Cond.methodLink M.1.cls i M1.1 ∈ k_GW) (hi : Cond.instanceMethod M1.1 ∈ k_GW) (hin : M1.1.name = "<init>") (hret : M1.2.2.2 = none) (ha0 : 0 ≤ a) (hdep : d1 + 1 ≤ d) (hn : as.length = n) (hs : k_sw st ≤ 8) (hA : k_AM d1 M1 ((1, a) :: as) A r1 A1) (hst : k_ps M1 r1 ++ st = st1) (k : k_AW d M (pc + 3) ls st1 A1 r A') : k_AW d M pc ls (as.reverse ++ (1, a) :: st) A r A' :=
  ⟨k_le_tr hA.1 k.1, fun p l e R s m args below meth c Q D cy A0 al0 sc ob al H locs cells slots LS C G F Y L gl gs => by
    have hU : cells + ob.2.1 = k_U A := Y.2.2.2.2.2.1.1
    have hT : slots + ob.2.2 = k_T A := Y.2.2.2.2.2.1.2
    have kU := k.1.2.1
    have kT := k.1.2.2
    have aU := hA.1.2.1
    have aT := hA.1.2.2
    have gU : k_U A' ≤ R.cells + ob.2.1 := G.1
    have gT : k_T A' ≤ R.slots + ob.2.2 := G.2
    have hR1 := C.2.2.2.2.2.2.2.2.2.2.1
    have hR2 := C.2.2.2.2.2.2.2.2.2.2.2.1
    have hm31 := hb.2.2.2.2
    have hsum := k_sw_ok al st
    have hts := C.2.2.2.2.2.1
    have gs1 : k_gl (k_N A) as.reverse ∧ k_gl (k_N A) ((1, a) :: st) := k_gl_app.mp gs
    have gst := (k_gl_cons.mp gs1.2).2
    have gas := k_gl_cons.mpr ⟨(k_gl_cons.mp gs1.2).1, k_gl_rev.mp gs1.1⟩
    have estk : ((as.reverse ++ (1, a) :: st).map (k_tv al)) = (as.map (k_tv al)).reverse ++ .ref (al a) :: st.map (k_tv al) := by rw [List.map_append, List.map_cons, List.map_reverse, k_ref ha0]
    have eargs : (((1, a) :: as).map (k_tv al)).toArray = (Value.ref (al a) :: as.map (k_tv al)).toArray := by rw [List.map_cons, k_ref ha0]
    have hent := k_entry (as := (1, a) :: as) C Y gas
    rw [eargs] at hent
    rw [estk]
    have hfr : d1 + 1 ≤ R.frames := by omega
    have hlo : 8 + (M1.2.2.1 + 11) + 50 * d1 ≤ R.locals := by omega
    have hce : cells + (k_U A1 - k_U A) ≤ R.cells := by omega
    have hsl : slots + (k_T A1 - k_T A) ≤ R.slots := by omega
    exact k_after hA.1 hst k C G F Y L gl gst (va_runI (As := as.map (k_tv al)) (rest := st.map (k_tv al)) (bytes := M1.2.1) (maxL := M1.2.2.1) ⟨C.1, C.2.1, C.2.2.1, C.2.2.2.2.1, hts⟩ (hA.2 l D cy al sc H.size) ⟨⟨rfl, rfl, hfr, hlo, k_pay hts hb, by rw [hret]; exact List.mem_cons_self, by rw [← hret]; exact hts _ hb.1, hts _ hb.2.1, hb.2.2.1, k_prm hb, hts _ hl⟩, hin, hts _ hi⟩ ⟨k_blind, hent⟩ rfl (by rw [List.length_map]; exact hn) L.1 rfl (by show 2 * 0 + _ ≤ 8; omega) hd ⟨hce, hsl⟩)⟩
set_option maxHeartbeats 1000000 in
theorem k_callIN {i n : Nat} {a : Int} {as : List k_V} {host : String} (hd : decode M.2.1 pc = .ok (.invokespecial i, 3)) (hb : k_CB M1 n) (hl : (M.1.cls, i, M1.1, host) ∈ k_NW) (hi : Cond.instanceMethod M1.1 ∈ k_GW) (hin : M1.1.name = "<init>") (hret : M1.2.2.2 = none) (ha0 : 0 ≤ a) (hdep : d1 + 1 ≤ d) (hn : as.length = n) (hs : k_sw st ≤ 8) (hA : k_AM d1 M1 ((1, a) :: as) A r1 A1) (hst : k_ps M1 r1 ++ st = st1) (k : k_AW d M (pc + 3) ls st1 A1 r A') : k_AW d M pc ls (as.reverse ++ (1, a) :: st) A r A' :=
  ⟨k_le_tr hA.1 k.1, fun p l e R s m args below meth c Q D cy A0 al0 sc ob al H locs cells slots LS C G F Y L gl gs => by
    have hU : cells + ob.2.1 = k_U A := Y.2.2.2.2.2.1.1
    have hT : slots + ob.2.2 = k_T A := Y.2.2.2.2.2.1.2
    have kU := k.1.2.1
    have kT := k.1.2.2
    have aU := hA.1.2.1
    have aT := hA.1.2.2
    have gU : k_U A' ≤ R.cells + ob.2.1 := G.1
    have gT : k_T A' ≤ R.slots + ob.2.2 := G.2
    have hR1 := C.2.2.2.2.2.2.2.2.2.2.1
    have hR2 := C.2.2.2.2.2.2.2.2.2.2.2.1
    have hm31 := hb.2.2.2.2
    have hsum := k_sw_ok al st
    have hts := C.2.2.2.2.2.1
    have gs1 : k_gl (k_N A) as.reverse ∧ k_gl (k_N A) ((1, a) :: st) := k_gl_app.mp gs
    have gst := (k_gl_cons.mp gs1.2).2
    have gas := k_gl_cons.mpr ⟨(k_gl_cons.mp gs1.2).1, k_gl_rev.mp gs1.1⟩
    have estk : ((as.reverse ++ (1, a) :: st).map (k_tv al)) = (as.map (k_tv al)).reverse ++ .ref (al a) :: st.map (k_tv al) := by rw [List.map_append, List.map_cons, List.map_reverse, k_ref ha0]
    have eargs : (((1, a) :: as).map (k_tv al)).toArray = (Value.ref (al a) :: as.map (k_tv al)).toArray := by rw [List.map_cons, k_ref ha0]
    have hent := k_entry (as := (1, a) :: as) C Y gas
    rw [eargs] at hent
    rw [estk]
    have hnw : va_Nw (.methodLinkNest M.1.cls i M1.1 host) s := C.2.2.2.2.2.2.2.2.2.2.2.2.1 _ hl
    have hfr : d1 + 1 ≤ R.frames := by omega
    have hlo : 8 + (M1.2.2.1 + 11) + 50 * d1 ≤ R.locals := by omega
    have hce : cells + (k_U A1 - k_U A) ≤ R.cells := by omega
    have hsl : slots + (k_T A1 - k_T A) ≤ R.slots := by omega
    exact k_after hA.1 hst k C G F Y L gl gst (va_runIN (As := as.map (k_tv al)) (rest := st.map (k_tv al)) (bytes := M1.2.1) (maxL := M1.2.2.1) (host := host) ⟨C.1, C.2.1, C.2.2.1, C.2.2.2.2.1, hts⟩ (hA.2 l D cy al sc H.size) ⟨⟨⟨rfl, rfl, hfr, hlo, k_pay hts hb, by rw [hret]; exact List.mem_cons_self⟩, by rw [← hret]; exact hts _ hb.1, hts _ hb.2.1, hb.2.2.1, k_prm hb, va_Nw.use rfl hnw⟩, hin, hts _ hi⟩ ⟨k_blind, hent⟩ rfl (by rw [List.length_map]; exact hn) L.1 rfl (by show 2 * 0 + _ ≤ 8; omega) hd ⟨hce, hsl⟩)⟩
set_option maxHeartbeats 1000000 in
theorem k_callS {i n : Nat} {as : List k_V} (hd : decode M.2.1 pc = .ok (.invokestatic i, 3)) (hb : k_CB M1 n) (hl : Cond.methodLink M.1.cls i M1.1 ∈ k_GW) (hi : Cond.static M1.1 ∈ k_GW) (hdep : d1 + 1 ≤ d) (hn : as.length = n) (hs : k_sw st ≤ 8) (hA : k_AM d1 M1 (as) A r1 A1) (hst : k_ps M1 r1 ++ st = st1) (k : k_AW d M (pc + 3) ls st1 A1 r A') : k_AW d M pc ls (as.reverse ++ st) A r A' :=
  ⟨k_le_tr hA.1 k.1, fun p l e R s m args below meth c Q D cy A0 al0 sc ob al H locs cells slots LS C G F Y L gl gs => by
    have hU : cells + ob.2.1 = k_U A := Y.2.2.2.2.2.1.1
    have hT : slots + ob.2.2 = k_T A := Y.2.2.2.2.2.1.2
    have kU := k.1.2.1
    have kT := k.1.2.2
    have aU := hA.1.2.1
    have aT := hA.1.2.2
    have gU : k_U A' ≤ R.cells + ob.2.1 := G.1
    have gT : k_T A' ≤ R.slots + ob.2.2 := G.2
    have hR1 := C.2.2.2.2.2.2.2.2.2.2.1
    have hR2 := C.2.2.2.2.2.2.2.2.2.2.2.1
    have hm31 := hb.2.2.2.2
    have hsum := k_sw_ok al st
    have hts := C.2.2.2.2.2.1
    have gs1 : k_gl (k_N A) as.reverse ∧ k_gl (k_N A) st := k_gl_app.mp gs
    have gst := gs1.2
    have gas := k_gl_rev.mp gs1.1
    have estk : ((as.reverse ++ st).map (k_tv al)) = (as.map (k_tv al)).reverse ++ st.map (k_tv al) := by rw [List.map_append, List.map_reverse]
    have hent := k_entry (as := as) C Y gas
    rw [estk]
    have hfr : d1 + 1 ≤ R.frames := by omega
    have hlo : 8 + (M1.2.2.1 + 11) + 50 * d1 ≤ R.locals := by omega
    have hce : cells + (k_U A1 - k_U A) ≤ R.cells := by omega
    have hsl : slots + (k_T A1 - k_T A) ≤ R.slots := by omega
    exact k_after hA.1 hst k C G F Y L gl gst (va_runS (As := as.map (k_tv al)) (rest := st.map (k_tv al)) ⟨C.1, C.2.1, C.2.2.1, C.2.2.2.2.1, hts⟩ (hA.2 l D cy al sc H.size) ⟨⟨rfl, rfl, hfr, hlo, k_pay hts hb, List.mem_cons_self, hts _ hb.1, hts _ hb.2.1, hb.2.2.1, k_prm hb, hts _ hl⟩, hts _ hi⟩ ⟨k_blind, hent⟩ rfl (by rw [List.length_map]; exact hn) L.1 rfl (by show 2 * 0 + _ ≤ 8; omega) hd ⟨hce, hsl⟩)⟩
set_option maxHeartbeats 1000000 in
theorem k_callSN {i n : Nat} {as : List k_V} {host : String} (hd : decode M.2.1 pc = .ok (.invokestatic i, 3)) (hb : k_CB M1 n) (hl : (M.1.cls, i, M1.1, host) ∈ k_NW) (hi : Cond.static M1.1 ∈ k_GW) (hdep : d1 + 1 ≤ d) (hn : as.length = n) (hs : k_sw st ≤ 8) (hA : k_AM d1 M1 (as) A r1 A1) (hst : k_ps M1 r1 ++ st = st1) (k : k_AW d M (pc + 3) ls st1 A1 r A') : k_AW d M pc ls (as.reverse ++ st) A r A' :=
  ⟨k_le_tr hA.1 k.1, fun p l e R s m args below meth c Q D cy A0 al0 sc ob al H locs cells slots LS C G F Y L gl gs => by
    have hU : cells + ob.2.1 = k_U A := Y.2.2.2.2.2.1.1
    have hT : slots + ob.2.2 = k_T A := Y.2.2.2.2.2.1.2
    have kU := k.1.2.1
    have kT := k.1.2.2
    have aU := hA.1.2.1
    have aT := hA.1.2.2
    have gU : k_U A' ≤ R.cells + ob.2.1 := G.1
    have gT : k_T A' ≤ R.slots + ob.2.2 := G.2
    have hR1 := C.2.2.2.2.2.2.2.2.2.2.1
    have hR2 := C.2.2.2.2.2.2.2.2.2.2.2.1
    have hm31 := hb.2.2.2.2
    have hsum := k_sw_ok al st
    have hts := C.2.2.2.2.2.1
    have gs1 : k_gl (k_N A) as.reverse ∧ k_gl (k_N A) st := k_gl_app.mp gs
    have gst := gs1.2
    have gas := k_gl_rev.mp gs1.1
    have estk : ((as.reverse ++ st).map (k_tv al)) = (as.map (k_tv al)).reverse ++ st.map (k_tv al) := by rw [List.map_append, List.map_reverse]
    have hent := k_entry (as := as) C Y gas
    rw [estk]
    have hnw : va_Nw (.methodLinkNest M.1.cls i M1.1 host) s := C.2.2.2.2.2.2.2.2.2.2.2.2.1 _ hl
    have hfr : d1 + 1 ≤ R.frames := by omega
    have hlo : 8 + (M1.2.2.1 + 11) + 50 * d1 ≤ R.locals := by omega
    have hce : cells + (k_U A1 - k_U A) ≤ R.cells := by omega
    have hsl : slots + (k_T A1 - k_T A) ≤ R.slots := by omega
    exact k_after hA.1 hst k C G F Y L gl gst (va_runSN (As := as.map (k_tv al)) (rest := st.map (k_tv al)) (host := host) ⟨C.1, C.2.1, C.2.2.1, C.2.2.2.2.1, hts⟩ (hA.2 l D cy al sc H.size) ⟨⟨⟨rfl, rfl, hfr, hlo, k_pay hts hb, List.mem_cons_self⟩, hts _ hb.1, hts _ hb.2.1, hb.2.2.1, k_prm hb, va_Nw.use rfl hnw⟩, hts _ hi, trivial⟩ ⟨k_blind, hent⟩ rfl (by rw [List.length_map]; exact hn) L.1 rfl (by show 2 * 0 + _ ≤ 8; omega) hd ⟨hce, hsl⟩)⟩
end
section
variable {d : Nat} {M : k_M} {pc : Nat} {ls st : List k_V} {A : k_H} {r : Int} {A' : k_H}
theorem k_mi : Cond.initialized "java/lang/Math" ∈ k_GW := k_gt 9 (by decide +kernel) (by decide +kernel)
theorem k_ms_max : Cond.static Lib.Math.max.name ∈ k_GW := k_gt 222 (by decide +kernel) (by decide +kernel)
theorem k_mc_max : Cond.code Lib.Math.max.name Lib.Math.max.code 2 (some .int) ∈ k_GW := k_gt 223 (by decide +kernel) (by decide +kernel)
theorem k_ms_min : Cond.static Lib.Math.min.name ∈ k_GW := k_gt 380 (by decide +kernel) (by decide +kernel)
theorem k_mc_min : Cond.code Lib.Math.min.name Lib.Math.min.code 2 (some .int) ∈ k_GW := k_gt 381 (by decide +kernel) (by decide +kernel)
theorem k_ms_abs : Cond.static Lib.Math.abs.name ∈ k_GW := k_gt 502 (by decide +kernel) (by decide +kernel)
theorem k_mc_abs : Cond.code Lib.Math.abs.name Lib.Math.abs.code 1 (some .int) ∈ k_GW := k_gt 503 (by decide +kernel) (by decide +kernel)
theorem k_mmax {i : Nat} {x y : Int} (hd : decode M.2.1 pc = .ok (.invokestatic i, 3)) (hw : Cond.methodLink M.1.cls i Lib.Math.max.name ∈ k_GW) (h1 : 1 ≤ d) (hs : k_sw st ≤ 8) (k : k_AW d M (pc + 3) ls ((0, max x y) :: st) A r A') : k_AW d M pc ls ((0, y) :: (0, x) :: st) A r A' :=
  ⟨k.1, fun p l e R s m args below meth c Q D cy A0 al0 sc ob al H locs cells slots LS C G F Y L gl gs => by
    have hU : cells + ob.2.1 = k_U A := Y.2.2.2.2.2.1.1
    have hT : slots + ob.2.2 = k_T A := Y.2.2.2.2.2.1.2
    have kU := k.1.2.1
    have kT := k.1.2.2
    have gU : k_U A' ≤ R.cells + ob.2.1 := G.1
    have gT : k_T A' ≤ R.slots + ob.2.2 := G.2
    have hR1 := C.2.2.2.2.2.2.2.2.2.2.1
    have hR2 := C.2.2.2.2.2.2.2.2.2.2.2.1
    have hsum := k_sw_ok al st
    have gy := (k_gl_cons.mp gs).1
    have gx := (k_gl_cons.mp (k_gl_cons.mp gs).2).1
    have ev : Int32.ofInt (max x y) = if Int32.ofInt x < Int32.ofInt y then Int32.ofInt y else Int32.ofInt x := by
      by_cases hc : x < y
      · rw [if_pos ((k_ilt gx gy).mpr hc)]; congr 1; omega
      · rw [if_neg (fun z => hc ((k_ilt gx gy).mp z))]; congr 1; omega
    have w := k.2 p l e R s m args below meth c Q D cy A0 al0 sc ob al H locs cells slots LS C G F Y L gl (k_gl_cons.mpr ⟨by
      have g1 : -2147483648 ≤ x ∧ x < 2147483648 := gx
      have g2 : -2147483648 ≤ y ∧ y < 2147483648 := gy
      show -2147483648 ≤ max x y ∧ max x y < 2147483648
      omega, (k_gl_cons.mp (k_gl_cons.mp gs).2).2⟩)
    rw [List.map_cons, List.map_cons]
    refine va_mmax C.1 C.2.1 (by rw [C.2.2.1]; exact L.1.symm) C.2.2.2.2.1 (C.2.2.2.2.2.1 _ hw) (C.2.2.2.2.2.1 _ k_ms_max) (C.2.2.2.2.2.1 _ k_mi) (C.2.2.2.2.2.1 _ k_mc_max) (by omega) (by omega) (by omega) (by omega) hd ?_
    rw [List.map_cons] at w
    have e2 : k_tv al (0, max x y) = .int (if Int32.ofInt x < Int32.ofInt y then Int32.ofInt y else Int32.ofInt x) := congrArg Value.int ev
    rw [e2] at w
    exact w⟩
theorem k_mmin {i : Nat} {x y : Int} (hd : decode M.2.1 pc = .ok (.invokestatic i, 3)) (hw : Cond.methodLink M.1.cls i Lib.Math.min.name ∈ k_GW) (h1 : 1 ≤ d) (hs : k_sw st ≤ 8) (k : k_AW d M (pc + 3) ls ((0, min x y) :: st) A r A') : k_AW d M pc ls ((0, y) :: (0, x) :: st) A r A' :=
  ⟨k.1, fun p l e R s m args below meth c Q D cy A0 al0 sc ob al H locs cells slots LS C G F Y L gl gs => by
    have hU : cells + ob.2.1 = k_U A := Y.2.2.2.2.2.1.1
    have hT : slots + ob.2.2 = k_T A := Y.2.2.2.2.2.1.2
    have kU := k.1.2.1
    have kT := k.1.2.2
    have gU : k_U A' ≤ R.cells + ob.2.1 := G.1
    have gT : k_T A' ≤ R.slots + ob.2.2 := G.2
    have hR1 := C.2.2.2.2.2.2.2.2.2.2.1
    have hR2 := C.2.2.2.2.2.2.2.2.2.2.2.1
    have hsum := k_sw_ok al st
    have gy := (k_gl_cons.mp gs).1
    have gx := (k_gl_cons.mp (k_gl_cons.mp gs).2).1
    have ev : Int32.ofInt (min x y) = if Int32.ofInt y < Int32.ofInt x then Int32.ofInt y else Int32.ofInt x := by
      by_cases hc : y < x
      · rw [if_pos ((k_ilt gy gx).mpr hc)]; congr 1; omega
      · rw [if_neg (fun z => hc ((k_ilt gy gx).mp z))]; congr 1; omega
    have w := k.2 p l e R s m args below meth c Q D cy A0 al0 sc ob al H locs cells slots LS C G F Y L gl (k_gl_cons.mpr ⟨by
      have g1 : -2147483648 ≤ x ∧ x < 2147483648 := gx
      have g2 : -2147483648 ≤ y ∧ y < 2147483648 := gy
      show -2147483648 ≤ min x y ∧ min x y < 2147483648
      omega, (k_gl_cons.mp (k_gl_cons.mp gs).2).2⟩)
    rw [List.map_cons, List.map_cons]
    refine va_mmin C.1 C.2.1 (by rw [C.2.2.1]; exact L.1.symm) C.2.2.2.2.1 (C.2.2.2.2.2.1 _ hw) (C.2.2.2.2.2.1 _ k_ms_min) (C.2.2.2.2.2.1 _ k_mi) (C.2.2.2.2.2.1 _ k_mc_min) (by omega) (by omega) (by omega) (by omega) hd ?_
    rw [List.map_cons] at w
    have e2 : k_tv al (0, min x y) = .int (if Int32.ofInt y < Int32.ofInt x then Int32.ofInt y else Int32.ofInt x) := congrArg Value.int ev
    rw [e2] at w
    exact w⟩
theorem k_mabs {i : Nat} {x : Int} (hd : decode M.2.1 pc = .ok (.invokestatic i, 3)) (hw : Cond.methodLink M.1.cls i Lib.Math.abs.name ∈ k_GW) (h1 : 1 ≤ d) (hs : k_sw st ≤ 8) (k : k_AW d M (pc + 3) ls ((0, if 0 ≤ x then x else k_wr (-x)) :: st) A r A') : k_AW d M pc ls ((0, x) :: st) A r A' :=
  ⟨k.1, fun p l e R s m args below meth c Q D cy A0 al0 sc ob al H locs cells slots LS C G F Y L gl gs => by
    have hU : cells + ob.2.1 = k_U A := Y.2.2.2.2.2.1.1
    have hT : slots + ob.2.2 = k_T A := Y.2.2.2.2.2.1.2
    have kU := k.1.2.1
    have kT := k.1.2.2
    have gU : k_U A' ≤ R.cells + ob.2.1 := G.1
    have gT : k_T A' ≤ R.slots + ob.2.2 := G.2
    have hR1 := C.2.2.2.2.2.2.2.2.2.2.1
    have hR2 := C.2.2.2.2.2.2.2.2.2.2.2.1
    have hsum := k_sw_ok al st
    have gx := (k_gl_cons.mp gs).1
    have ev : Int32.ofInt (if 0 ≤ x then x else k_wr (-x)) = if 0 ≤ Int32.ofInt x then Int32.ofInt x else 0 - Int32.ofInt x := by
      have hz : (0 : Int32) ≤ Int32.ofInt x ↔ 0 ≤ x := k_ile (x := 0) (k_g00 (k_N A)) gx
      by_cases hc : 0 ≤ x
      · rw [if_pos (hz.mpr hc), if_pos hc]
      · rw [if_neg (fun z => hc (hz.mp z)), if_neg hc, k_of_wr, Int32.ofInt_neg]; simp
    have w := k.2 p l e R s m args below meth c Q D cy A0 al0 sc ob al H locs cells slots LS C G F Y L gl (k_gl_cons.mpr ⟨by
      by_cases hc : 0 ≤ x
      · rw [if_pos hc]; exact gx
      · rw [if_neg hc]; exact k_wr_range _, (k_gl_cons.mp gs).2⟩)
    rw [List.map_cons]
    refine va_mabs C.1 C.2.1 (by rw [C.2.2.1]; exact L.1.symm) C.2.2.2.2.1 (C.2.2.2.2.2.1 _ hw) (C.2.2.2.2.2.1 _ k_ms_abs) (C.2.2.2.2.2.1 _ k_mi) (C.2.2.2.2.2.1 _ k_mc_abs) (by omega) (by omega) (by omega) (by omega) hd ?_
    rw [List.map_cons] at w
    have e2 : k_tv al (0, if 0 ≤ x then x else k_wr (-x)) = .int (if 0 ≤ Int32.ofInt x then Int32.ofInt x else 0 - Int32.ofInt x) := congrArg Value.int ev
    rw [e2] at w
    exact w⟩
end
end
section
/-! small rows for the methods' texts -/
def k_FU : Nat := 1073741824
def k_bd (o : Option (Int × k_H)) (g : Int → k_H → Option (Int × k_H)) : Option (Int × k_H) := match o with
  | none => none
  | some q => g q.1 q.2
def k_lt (x : k_H) (g : k_H → Option (Int × k_H)) : Option (Int × k_H) := g x
theorem k_pk {c : Prop} [Decidable c] {x : Option (Int × k_H)} {y : Int × k_H} (h : (if c then x else none) = some y) : c ∧ x = some y := by
  by_cases hc : c
  · rw [if_pos hc] at h; exact ⟨hc, h⟩
  · rw [if_neg hc] at h; cases h
theorem k_pb {o : Option (Int × k_H)} {g : Int → k_H → Option (Int × k_H)} {y : Int × k_H} (h : k_bd o g = some y) : ∃ (r : Int) (A : k_H), o = some (r, A) ∧ g r A = some y := by
  cases o with
  | none => cases h
  | some q => exact ⟨q.1, q.2, rfl, h⟩
theorem k_pl {x : k_H} {g : k_H → Option (Int × k_H)} {y : Int × k_H} (h : k_lt x g = some y) : ∃ B : k_H, B = x ∧ g B = some y := ⟨x, rfl, h⟩
theorem k_pr {x r : Int} {A A' : k_H} (h : some (x, A) = some (r, A')) : r = x ∧ A' = A := by
  cases h; exact ⟨rfl, rfl⟩
theorem k_hq {d : Nat} {M : k_M} {pc : Nat} {ls st : List k_V} {A B : k_H} {r : Int} {A' : k_H} (e : B = A) (k : k_AW d M pc ls st B r A') : k_AW d M pc ls st A r A' := e ▸ k
theorem k_oW {A B : k_H} {a i v : Int} (e : B = k_wt A a i v) {b : Int} {ci : Nat} (h : k_isO A b ci) : k_isO B b ci := by subst e; exact h
theorem k_aW {A B : k_H} {a i v : Int} (e : B = k_wt A a i v) {b j : Int} {K : Nat} (h : k_isA A b K j) : k_isA B b K j := by subst e; exact h
theorem k_rW {A B : k_H} {a i v : Int} (e : B = k_wt A a i v) {b : Int} {K : Nat} (h : k_isR A b K) : k_isR B b K := by subst e; exact h
theorem k_oX {A B : k_H} {a i a2 i2 n : Int} (e : B = k_cp A a i a2 i2 n) {b : Int} {ci : Nat} (h : k_isO A b ci) : k_isO B b ci := by subst e; exact h
theorem k_aX {A B : k_H} {a i a2 i2 n : Int} (e : B = k_cp A a i a2 i2 n) {b j : Int} {K : Nat} (h : k_isA A b K j) : k_isA B b K j := by subst e; exact h
theorem k_rX {A B : k_H} {a i a2 i2 n : Int} (e : B = k_cp A a i a2 i2 n) {b : Int} {K : Nat} (h : k_isR A b K) : k_isR B b K := by subst e; exact h
theorem k_nz {x : Int} (h : x = 0 ∨ x = 1) : narrow .boolean (.int (Int32.ofInt x)) = .int (Int32.ofInt x) := by
  rcases h with rfl | rfl <;> decide +kernel
theorem k_nb {x : Int} (h : x = 0 ∨ x = 1) : narrow .byte (.int (Int32.ofInt x)) = .int (Int32.ofInt x) := by
  rcases h with rfl | rfl <;> decide +kernel
def k_t3 (l : List k_V) : Bool := l.all fun v => decide (v.1 < 3)
theorem k_AM_of2 {d : Nat} {M : k_M} {as ls : List k_V} {A : k_H} {r : Int} {A1 : k_H} (hp : plainName M.1.cls = true) (ht : k_t3 as = true) (hl : (k_en as).length ≤ M.2.2.1) (hs : k_sbl ls (k_en as)) (h : k_AW d M 0 ls [] A r A1) : k_AM d M as A r A1 := by
  have hh := k_sbl_ok ls (k_en as) hs
  refine k_AM_of hp (fun v hv => ?_) hl hh (fun g v hv => ?_) h
  · have := List.all_eq_true.mp ht v hv
    simpa using this
  · by_cases h3 : v.1 < 3
    · obtain ⟨i, hi⟩ := List.getElem?_of_mem hv
      have h1 := hh i v hi h3
      have h2 : ∀ as : List k_V, ∀ w ∈ k_en as, w.1 < 3 → w ∈ as := by
        intro as
        induction as with
        | nil => intro w hw; cases hw
        | cons a l ih =>
          intro w hw h3
          have e : k_en (a :: l) = if a.1 = 2 then a :: (3, 0) :: k_en l else a :: k_en l := rfl
          rw [e] at hw
          split at hw
          · rcases List.mem_cons.mp hw with rfl | hw
            · exact List.mem_cons_self
            · rcases List.mem_cons.mp hw with rfl | hw
              · exact absurd h3 (by decide)
              · exact List.mem_cons_of_mem _ (ih w hw h3)
          · rcases List.mem_cons.mp hw with rfl | hw
            · exact List.mem_cons_self
            · exact List.mem_cons_of_mem _ (ih w hw h3)
      exact g v (h2 as v (List.mem_of_getElem? h1) h3)
    · obtain ⟨t, x⟩ := v
      match t, h3 with
      | t + 3, _ => exact trivial
      | 0, h3 => exact absurd (by show 0 < 3; decide) h3
      | 1, h3 => exact absurd (by show 1 < 3; decide) h3
      | 2, h3 => exact absurd (by show 2 < 3; decide) h3
end
section
theorem dX0_init_0 : decode cX0_init 0 = .ok (.aload_n 0, 1) := by decide +kernel
theorem dX0_init_1 : decode cX0_init 1 = .ok (.invokespecial 1, 3) := by decide +kernel
theorem dX0_init_4 : decode cX0_init 4 = .ok (.aload_n 0, 1) := by decide +kernel
theorem dX0_init_5 : decode cX0_init 5 = .ok (.iconst 0, 1) := by decide +kernel
theorem dX0_init_6 : decode cX0_init 6 = .ok (.iload_n 1, 1) := by decide +kernel
theorem dX0_init_7 : decode cX0_init 7 = .ok (.invokestatic 7, 3) := by decide +kernel
theorem dX0_init_10 : decode cX0_init 10 = .ok (.newarray .int, 2) := by decide +kernel
theorem dX0_init_12 : decode cX0_init 12 = .ok (.putfield 13, 3) := by decide +kernel
theorem dX0_init_15 : decode cX0_init 15 = .ok (.return_, 1) := by decide +kernel
theorem dX1_givenToOthers_0 : decode cX1_givenToOthers 0 = .ok (.iconst 0, 1) := by decide +kernel
theorem dX1_givenToOthers_1 : decode cX1_givenToOthers 1 = .ok (.istore_n 2, 1) := by decide +kernel
theorem dX1_givenToOthers_2 : decode cX1_givenToOthers 2 = .ok (.iconst 0, 1) := by decide +kernel
theorem dX1_givenToOthers_3 : decode cX1_givenToOthers 3 = .ok (.istore_n 3, 1) := by decide +kernel
theorem dX1_givenToOthers_4 : decode cX1_givenToOthers 4 = .ok (.iload_n 3, 1) := by decide +kernel
theorem dX1_givenToOthers_5 : decode cX1_givenToOthers 5 = .ok (.bipush 6, 2) := by decide +kernel
theorem dX1_givenToOthers_7 : decode cX1_givenToOthers 7 = .ok (.if_icmp .ge 23, 3) := by decide +kernel
theorem dX1_givenToOthers_10 : decode cX1_givenToOthers 10 = .ok (.iload_n 3, 1) := by decide +kernel
theorem dX1_givenToOthers_11 : decode cX1_givenToOthers 11 = .ok (.iload_n 1, 1) := by decide +kernel
theorem dX1_givenToOthers_12 : decode cX1_givenToOthers 12 = .ok (.if_icmp .eq 12, 3) := by decide +kernel
theorem dX1_givenToOthers_15 : decode cX1_givenToOthers 15 = .ok (.iload_n 2, 1) := by decide +kernel
theorem dX1_givenToOthers_16 : decode cX1_givenToOthers 16 = .ok (.aload_n 0, 1) := by decide +kernel
theorem dX1_givenToOthers_17 : decode cX1_givenToOthers 17 = .ok (.getfield 20, 3) := by decide +kernel
theorem dX1_givenToOthers_20 : decode cX1_givenToOthers 20 = .ok (.iload_n 3, 1) := by decide +kernel
theorem dX1_givenToOthers_21 : decode cX1_givenToOthers 21 = .ok (.iaload, 1) := by decide +kernel
theorem dX1_givenToOthers_22 : decode cX1_givenToOthers 22 = .ok (.iadd, 1) := by decide +kernel
theorem dX1_givenToOthers_23 : decode cX1_givenToOthers 23 = .ok (.istore_n 2, 1) := by decide +kernel
theorem dX1_givenToOthers_24 : decode cX1_givenToOthers 24 = .ok (.iinc 3 1, 3) := by decide +kernel
theorem dX1_givenToOthers_27 : decode cX1_givenToOthers 27 = .ok (.goto (-23), 3) := by decide +kernel
theorem dX1_givenToOthers_30 : decode cX1_givenToOthers 30 = .ok (.iload_n 2, 1) := by decide +kernel
theorem dX1_givenToOthers_31 : decode cX1_givenToOthers 31 = .ok (.ireturn, 1) := by decide +kernel
theorem dX1_milesTo_0 : decode cX1_milesTo 0 = .ok (.aload_n 0, 1) := by decide +kernel
theorem dX1_milesTo_1 : decode cX1_milesTo 1 = .ok (.getfield 35, 3) := by decide +kernel
theorem dX1_milesTo_4 : decode cX1_milesTo 4 = .ok (.aload_n 1, 1) := by decide +kernel
theorem dX1_milesTo_5 : decode cX1_milesTo 5 = .ok (.getfield 35, 3) := by decide +kernel
theorem dX1_milesTo_8 : decode cX1_milesTo 8 = .ok (.isub, 1) := by decide +kernel
theorem dX1_milesTo_9 : decode cX1_milesTo 9 = .ok (.invokestatic 38, 3) := by decide +kernel
theorem dX1_milesTo_12 : decode cX1_milesTo 12 = .ok (.aload_n 0, 1) := by decide +kernel
theorem dX1_milesTo_13 : decode cX1_milesTo 13 = .ok (.getfield 44, 3) := by decide +kernel
theorem dX1_milesTo_16 : decode cX1_milesTo 16 = .ok (.aload_n 1, 1) := by decide +kernel
theorem dX1_milesTo_17 : decode cX1_milesTo 17 = .ok (.getfield 44, 3) := by decide +kernel
theorem dX1_milesTo_20 : decode cX1_milesTo 20 = .ok (.isub, 1) := by decide +kernel
theorem dX1_milesTo_21 : decode cX1_milesTo 21 = .ok (.invokestatic 38, 3) := by decide +kernel
theorem dX1_milesTo_24 : decode cX1_milesTo 24 = .ok (.iadd, 1) := by decide +kernel
theorem dX1_milesTo_25 : decode cX1_milesTo 25 = .ok (.ireturn, 1) := by decide +kernel
theorem dX5_init_0 : decode cX5_init 0 = .ok (.aload_n 0, 1) := by decide +kernel
theorem dX5_init_1 : decode cX5_init 1 = .ok (.invokespecial 3, 3) := by decide +kernel
theorem dX5_init_4 : decode cX5_init 4 = .ok (.aload_n 0, 1) := by decide +kernel
theorem dX5_init_5 : decode cX5_init 5 = .ok (.sipush 200, 3) := by decide +kernel
theorem dX5_init_8 : decode cX5_init 8 = .ok (.newarray .int, 2) := by decide +kernel
theorem dX5_init_10 : decode cX5_init 10 = .ok (.putfield 9, 3) := by decide +kernel
theorem dX5_init_13 : decode cX5_init 13 = .ok (.return_, 1) := by decide +kernel
theorem dX5_append_0 : decode cX5_append 0 = .ok (.bipush 24, 2) := by decide +kernel
theorem dX5_append_2 : decode cX5_append 2 = .ok (.istore_n 2, 1) := by decide +kernel
theorem dX5_append_3 : decode cX5_append 3 = .ok (.iload_n 2, 1) := by decide +kernel
theorem dX5_append_4 : decode cX5_append 4 = .ok (.ifCond .lt 45, 3) := by decide +kernel
theorem dX5_append_7 : decode cX5_append 7 = .ok (.aload_n 0, 1) := by decide +kernel
theorem dX5_append_8 : decode cX5_append 8 = .ok (.getfield 15, 3) := by decide +kernel
theorem dX5_append_11 : decode cX5_append 11 = .ok (.sipush 200, 3) := by decide +kernel
theorem dX5_append_14 : decode cX5_append 14 = .ok (.if_icmp .ge 35, 3) := by decide +kernel
theorem dX5_append_17 : decode cX5_append 17 = .ok (.aload_n 0, 1) := by decide +kernel
theorem dX5_append_18 : decode cX5_append 18 = .ok (.getfield 9, 3) := by decide +kernel
theorem dX5_append_21 : decode cX5_append 21 = .ok (.aload_n 0, 1) := by decide +kernel
theorem dX5_append_22 : decode cX5_append 22 = .ok (.getfield 15, 3) := by decide +kernel
theorem dX5_append_25 : decode cX5_append 25 = .ok (.iload_n 1, 1) := by decide +kernel
theorem dX5_append_26 : decode cX5_append 26 = .ok (.iload_n 2, 1) := by decide +kernel
theorem dX5_append_27 : decode cX5_append 27 = .ok (.iushr, 1) := by decide +kernel
theorem dX5_append_28 : decode cX5_append 28 = .ok (.sipush 255, 3) := by decide +kernel
theorem dX5_append_31 : decode cX5_append 31 = .ok (.iand, 1) := by decide +kernel
theorem dX5_append_32 : decode cX5_append 32 = .ok (.iastore, 1) := by decide +kernel
theorem dX5_append_33 : decode cX5_append 33 = .ok (.aload_n 0, 1) := by decide +kernel
theorem dX5_append_34 : decode cX5_append 34 = .ok (.dup, 1) := by decide +kernel
theorem dX5_append_35 : decode cX5_append 35 = .ok (.getfield 15, 3) := by decide +kernel
theorem dX5_append_38 : decode cX5_append 38 = .ok (.iconst 1, 1) := by decide +kernel
theorem dX5_append_39 : decode cX5_append 39 = .ok (.iadd, 1) := by decide +kernel
theorem dX5_append_40 : decode cX5_append 40 = .ok (.putfield 15, 3) := by decide +kernel
theorem dX5_append_43 : decode cX5_append 43 = .ok (.iinc 2 (-8), 3) := by decide +kernel
theorem dX5_append_46 : decode cX5_append 46 = .ok (.goto (-43), 3) := by decide +kernel
theorem dX5_append_49 : decode cX5_append 49 = .ok (.return_, 1) := by decide +kernel
theorem dX5_copyFrom_0 : decode cX5_copyFrom 0 = .ok (.aload_n 1, 1) := by decide +kernel
theorem dX5_copyFrom_1 : decode cX5_copyFrom 1 = .ok (.getfield 9, 3) := by decide +kernel
theorem dX5_copyFrom_4 : decode cX5_copyFrom 4 = .ok (.iconst 0, 1) := by decide +kernel
theorem dX5_copyFrom_5 : decode cX5_copyFrom 5 = .ok (.aload_n 0, 1) := by decide +kernel
theorem dX5_copyFrom_6 : decode cX5_copyFrom 6 = .ok (.getfield 9, 3) := by decide +kernel
theorem dX5_copyFrom_9 : decode cX5_copyFrom 9 = .ok (.iconst 0, 1) := by decide +kernel
theorem dX5_copyFrom_10 : decode cX5_copyFrom 10 = .ok (.sipush 200, 3) := by decide +kernel
theorem dX5_copyFrom_13 : decode cX5_copyFrom 13 = .ok (.invokestatic 19, 3) := by decide +kernel
theorem dX5_copyFrom_16 : decode cX5_copyFrom 16 = .ok (.aload_n 0, 1) := by decide +kernel
theorem dX5_copyFrom_17 : decode cX5_copyFrom 17 = .ok (.aload_n 1, 1) := by decide +kernel
theorem dX5_copyFrom_18 : decode cX5_copyFrom 18 = .ok (.getfield 15, 3) := by decide +kernel
theorem dX5_copyFrom_21 : decode cX5_copyFrom 21 = .ok (.putfield 15, 3) := by decide +kernel
theorem dX5_copyFrom_24 : decode cX5_copyFrom 24 = .ok (.return_, 1) := by decide +kernel
theorem dX5_byteAt_0 : decode cX5_byteAt 0 = .ok (.iload_n 1, 1) := by decide +kernel
theorem dX5_byteAt_1 : decode cX5_byteAt 1 = .ok (.ifCond .lt 20, 3) := by decide +kernel
theorem dX5_byteAt_4 : decode cX5_byteAt 4 = .ok (.iload_n 1, 1) := by decide +kernel
theorem dX5_byteAt_5 : decode cX5_byteAt 5 = .ok (.aload_n 0, 1) := by decide +kernel
theorem dX5_byteAt_6 : decode cX5_byteAt 6 = .ok (.getfield 15, 3) := by decide +kernel
theorem dX5_byteAt_9 : decode cX5_byteAt 9 = .ok (.if_icmp .ge 12, 3) := by decide +kernel
theorem dX5_byteAt_12 : decode cX5_byteAt 12 = .ok (.aload_n 0, 1) := by decide +kernel
theorem dX5_byteAt_13 : decode cX5_byteAt 13 = .ok (.getfield 9, 3) := by decide +kernel
theorem dX5_byteAt_16 : decode cX5_byteAt 16 = .ok (.iload_n 1, 1) := by decide +kernel
theorem dX5_byteAt_17 : decode cX5_byteAt 17 = .ok (.iaload, 1) := by decide +kernel
theorem dX5_byteAt_18 : decode cX5_byteAt 18 = .ok (.goto 4, 3) := by decide +kernel
theorem dX5_byteAt_21 : decode cX5_byteAt 21 = .ok (.iconst (-1), 1) := by decide +kernel
theorem dX5_byteAt_22 : decode cX5_byteAt 22 = .ok (.ireturn, 1) := by decide +kernel
theorem dX5_holdsAmps_0 : decode cX5_holdsAmps 0 = .ok (.aload_n 0, 1) := by decide +kernel
theorem dX5_holdsAmps_1 : decode cX5_holdsAmps 1 = .ok (.getfield 15, 3) := by decide +kernel
theorem dX5_holdsAmps_4 : decode cX5_holdsAmps 4 = .ok (.iload_n 1, 1) := by decide +kernel
theorem dX5_holdsAmps_5 : decode cX5_holdsAmps 5 = .ok (.if_icmp .lt 11, 3) := by decide +kernel
theorem dX5_holdsAmps_8 : decode cX5_holdsAmps 8 = .ok (.aload_n 0, 1) := by decide +kernel
theorem dX5_holdsAmps_9 : decode cX5_holdsAmps 9 = .ok (.getfield 15, 3) := by decide +kernel
theorem dX5_holdsAmps_12 : decode cX5_holdsAmps 12 = .ok (.iload_n 2, 1) := by decide +kernel
theorem dX5_holdsAmps_13 : decode cX5_holdsAmps 13 = .ok (.if_icmp .le 5, 3) := by decide +kernel
theorem dX5_holdsAmps_16 : decode cX5_holdsAmps 16 = .ok (.iconst 0, 1) := by decide +kernel
theorem dX5_holdsAmps_17 : decode cX5_holdsAmps 17 = .ok (.ireturn, 1) := by decide +kernel
theorem dX5_holdsAmps_18 : decode cX5_holdsAmps 18 = .ok (.iconst 0, 1) := by decide +kernel
theorem dX5_holdsAmps_19 : decode cX5_holdsAmps 19 = .ok (.istore_n 3, 1) := by decide +kernel
theorem dX5_holdsAmps_20 : decode cX5_holdsAmps 20 = .ok (.iload_n 3, 1) := by decide +kernel
theorem dX5_holdsAmps_21 : decode cX5_holdsAmps 21 = .ok (.aload_n 0, 1) := by decide +kernel
theorem dX5_holdsAmps_22 : decode cX5_holdsAmps 22 = .ok (.getfield 15, 3) := by decide +kernel
theorem dX5_holdsAmps_25 : decode cX5_holdsAmps 25 = .ok (.if_icmp .ge 20, 3) := by decide +kernel
theorem dX5_holdsAmps_28 : decode cX5_holdsAmps 28 = .ok (.aload_n 0, 1) := by decide +kernel
theorem dX5_holdsAmps_29 : decode cX5_holdsAmps 29 = .ok (.getfield 9, 3) := by decide +kernel
theorem dX5_holdsAmps_32 : decode cX5_holdsAmps 32 = .ok (.iload_n 3, 1) := by decide +kernel
theorem dX5_holdsAmps_33 : decode cX5_holdsAmps 33 = .ok (.iaload, 1) := by decide +kernel
theorem dX5_holdsAmps_34 : decode cX5_holdsAmps 34 = .ok (.ifCond .ne 5, 3) := by decide +kernel
theorem dX5_holdsAmps_37 : decode cX5_holdsAmps 37 = .ok (.iconst 0, 1) := by decide +kernel
theorem dX5_holdsAmps_38 : decode cX5_holdsAmps 38 = .ok (.ireturn, 1) := by decide +kernel
theorem dX5_holdsAmps_39 : decode cX5_holdsAmps 39 = .ok (.iinc 3 1, 3) := by decide +kernel
theorem dX5_holdsAmps_42 : decode cX5_holdsAmps 42 = .ok (.goto (-22), 3) := by decide +kernel
theorem dX5_holdsAmps_45 : decode cX5_holdsAmps 45 = .ok (.iconst 1, 1) := by decide +kernel
theorem dX5_holdsAmps_46 : decode cX5_holdsAmps 46 = .ok (.ireturn, 1) := by decide +kernel
theorem dX0_take_0 : decode cX0_take 0 = .ok (.aload_n 0, 1) := by decide +kernel
theorem dX0_take_1 : decode cX0_take 1 = .ok (.aload_n 1, 1) := by decide +kernel
theorem dX0_take_2 : decode cX0_take 2 = .ok (.getfield 19, 3) := by decide +kernel
theorem dX0_take_5 : decode cX0_take 5 = .ok (.aload_n 0, 1) := by decide +kernel
theorem dX0_take_6 : decode cX0_take 6 = .ok (.getfield 13, 3) := by decide +kernel
theorem dX0_take_9 : decode cX0_take 9 = .ok (.arraylength, 1) := by decide +kernel
theorem dX0_take_10 : decode cX0_take 10 = .ok (.invokestatic 25, 3) := by decide +kernel
theorem dX0_take_13 : decode cX0_take 13 = .ok (.putfield 28, 3) := by decide +kernel
theorem dX0_take_16 : decode cX0_take 16 = .ok (.iconst 0, 1) := by decide +kernel
theorem dX0_take_17 : decode cX0_take 17 = .ok (.istore_n 2, 1) := by decide +kernel
theorem dX0_take_18 : decode cX0_take 18 = .ok (.iload_n 2, 1) := by decide +kernel
theorem dX0_take_19 : decode cX0_take 19 = .ok (.aload_n 0, 1) := by decide +kernel
theorem dX0_take_20 : decode cX0_take 20 = .ok (.getfield 28, 3) := by decide +kernel
theorem dX0_take_23 : decode cX0_take 23 = .ok (.if_icmp .ge 20, 3) := by decide +kernel
theorem dX0_take_26 : decode cX0_take 26 = .ok (.aload_n 0, 1) := by decide +kernel
theorem dX0_take_27 : decode cX0_take 27 = .ok (.getfield 13, 3) := by decide +kernel
theorem dX0_take_30 : decode cX0_take 30 = .ok (.iload_n 2, 1) := by decide +kernel
theorem dX0_take_31 : decode cX0_take 31 = .ok (.aload_n 1, 1) := by decide +kernel
theorem dX0_take_32 : decode cX0_take 32 = .ok (.iload_n 2, 1) := by decide +kernel
theorem dX0_take_33 : decode cX0_take 33 = .ok (.invokevirtual 31, 3) := by decide +kernel
theorem dX0_take_36 : decode cX0_take 36 = .ok (.iastore, 1) := by decide +kernel
theorem dX0_take_37 : decode cX0_take 37 = .ok (.iinc 2 1, 3) := by decide +kernel
theorem dX0_take_40 : decode cX0_take 40 = .ok (.goto (-22), 3) := by decide +kernel
theorem dX0_take_43 : decode cX0_take 43 = .ok (.return_, 1) := by decide +kernel
theorem dX1_init_0 : decode cX1_init 0 = .ok (.aload_n 0, 1) := by decide +kernel
theorem dX1_init_1 : decode cX1_init 1 = .ok (.invokespecial 3, 3) := by decide +kernel
theorem dX1_init_4 : decode cX1_init 4 = .ok (.aload_n 0, 1) := by decide +kernel
theorem dX1_init_5 : decode cX1_init 5 = .ok (.new 9, 3) := by decide +kernel
theorem dX1_init_8 : decode cX1_init 8 = .ok (.dup, 1) := by decide +kernel
theorem dX1_init_9 : decode cX1_init 9 = .ok (.iconst 4, 1) := by decide +kernel
theorem dX1_init_10 : decode cX1_init 10 = .ok (.invokespecial 11, 3) := by decide +kernel
theorem dX1_init_13 : decode cX1_init 13 = .ok (.putfield 14, 3) := by decide +kernel
theorem dX1_init_16 : decode cX1_init 16 = .ok (.aload_n 0, 1) := by decide +kernel
theorem dX1_init_17 : decode cX1_init 17 = .ok (.bipush 6, 2) := by decide +kernel
theorem dX1_init_19 : decode cX1_init 19 = .ok (.newarray .int, 2) := by decide +kernel
theorem dX1_init_21 : decode cX1_init 21 = .ok (.putfield 20, 3) := by decide +kernel
theorem dX1_init_24 : decode cX1_init 24 = .ok (.return_, 1) := by decide +kernel
theorem dX1_build_0 : decode cX1_build 0 = .ok (.aload_n 0, 1) := by decide +kernel
theorem dX1_build_1 : decode cX1_build 1 = .ok (.iload_n 1, 1) := by decide +kernel
theorem dX1_build_2 : decode cX1_build 2 = .ok (.putfield 24, 3) := by decide +kernel
theorem dX1_build_5 : decode cX1_build 5 = .ok (.aload_n 0, 1) := by decide +kernel
theorem dX1_build_6 : decode cX1_build 6 = .ok (.iload_n 2, 1) := by decide +kernel
theorem dX1_build_7 : decode cX1_build 7 = .ok (.putfield 28, 3) := by decide +kernel
theorem dX1_build_10 : decode cX1_build 10 = .ok (.aload_n 0, 1) := by decide +kernel
theorem dX1_build_11 : decode cX1_build 11 = .ok (.getfield 14, 3) := by decide +kernel
theorem dX1_build_14 : decode cX1_build 14 = .ok (.aload_n 3, 1) := by decide +kernel
theorem dX1_build_15 : decode cX1_build 15 = .ok (.invokevirtual 31, 3) := by decide +kernel
theorem dX1_build_18 : decode cX1_build 18 = .ok (.return_, 1) := by decide +kernel
end
section
theorem flX0_13 : k_FL RX0 13 0 0 true (.array .int) := ⟨RX0, TX0, 2, tyX0, k_c0, by decide, k_gt 224 (by decide +kernel) (by decide +kernel), rfl, rfl, rfl⟩
theorem flX0_19 : k_FL RX0 19 5 1 false .int := ⟨RX5, TX5, 2, tyX5, k_c5, by decide, k_gt 38 (by decide +kernel) (by decide +kernel), rfl, rfl, rfl⟩
theorem flX0_28 : k_FL RX0 28 0 1 false .int := ⟨RX0, TX0, 2, tyX0, k_c0, by decide, k_gt 226 (by decide +kernel) (by decide +kernel), rfl, rfl, rfl⟩
theorem flX1_14 : k_FL RX1 14 1 0 true (.object "VanPlays$Amps") := ⟨RX1, TX1, 6, tyX1, k_c1, by decide, k_gt 234 (by decide +kernel) (by decide +kernel), rfl, rfl, rfl⟩
theorem flX1_20 : k_FL RX1 20 1 1 true (.array .int) := ⟨RX1, TX1, 6, tyX1, k_c1, by decide, k_gt 236 (by decide +kernel) (by decide +kernel), rfl, rfl, rfl⟩
theorem flX1_24 : k_FL RX1 24 1 4 false .int := ⟨RX1, TX1, 6, tyX1, k_c1, by decide, k_gt 242 (by decide +kernel) (by decide +kernel), rfl, rfl, rfl⟩
theorem flX1_28 : k_FL RX1 28 1 5 false .int := ⟨RX1, TX1, 6, tyX1, k_c1, by decide, k_gt 244 (by decide +kernel) (by decide +kernel), rfl, rfl, rfl⟩
theorem flX1_35 : k_FL RX1 35 1 2 false .int := ⟨RX1, TX1, 6, tyX1, k_c1, by decide, k_gt 238 (by decide +kernel) (by decide +kernel), rfl, rfl, rfl⟩
theorem flX1_44 : k_FL RX1 44 1 3 false .int := ⟨RX1, TX1, 6, tyX1, k_c1, by decide, k_gt 240 (by decide +kernel) (by decide +kernel), rfl, rfl, rfl⟩
theorem flX5_9 : k_FL RX5 9 5 0 true (.array .int) := ⟨RX5, TX5, 2, tyX5, k_c5, by decide, k_gt 37 (by decide +kernel) (by decide +kernel), rfl, rfl, rfl⟩
theorem flX5_15 : k_FL RX5 15 5 1 false .int := ⟨RX5, TX5, 2, tyX5, k_c5, by decide, k_gt 40 (by decide +kernel) (by decide +kernel), rfl, rfl, rfl⟩
theorem ncX1_9 : k_NC RX1 9 0 := ⟨RX0, TX0, 2, tyX0, k_c0, k_gt 215 (by decide +kernel) (by decide +kernel), k_gt 216 (by decide +kernel) (by decide +kernel), k_gt 8 (by decide +kernel) (by decide +kernel)⟩
theorem cbX0_init : k_CB mX0_init 1 := ⟨k_gt 219 (by decide +kernel) (by decide +kernel), k_gt 8 (by decide +kernel) (by decide +kernel), ⟨by decide +kernel, by decide +kernel⟩, by decide +kernel, by decide⟩
theorem cbX0_take : k_CB mX0_take 1 := ⟨k_gt 378 (by decide +kernel) (by decide +kernel), k_gt 8 (by decide +kernel) (by decide +kernel), ⟨by decide +kernel, by decide +kernel⟩, by decide +kernel, by decide⟩
theorem cvX0_take : Cond.instanceMethod mX0_take.1 ∈ k_GW ∧ Cond.selects mX0_take.1.cls mX0_take.1 mX0_take.1 ∈ k_GW := ⟨k_gt 376 (by decide +kernel) (by decide +kernel), k_gt 377 (by decide +kernel) (by decide +kernel)⟩
theorem cbX5_byteAt : k_CB mX5_byteAt 1 := ⟨k_gt 385 (by decide +kernel) (by decide +kernel), k_gt 2 (by decide +kernel) (by decide +kernel), ⟨by decide +kernel, by decide +kernel⟩, by decide +kernel, by decide⟩
theorem cvX5_byteAt : Cond.instanceMethod mX5_byteAt.1 ∈ k_GW ∧ Cond.selects mX5_byteAt.1.cls mX5_byteAt.1 mX5_byteAt.1 ∈ k_GW := ⟨k_gt 383 (by decide +kernel) (by decide +kernel), k_gt 384 (by decide +kernel) (by decide +kernel)⟩
end
section
/-! X0_init -/
def fX0_init_b0 (A : k_H) (v0 v1 : Int) : Option (Int × k_H) := if 0 ≤ v0 then (if 0 ≤ (max 0 v1) ∧ (max 0 v1) ≤ 1000000 then (k_lt (k_mk A 21 ((max 0 v1)).toNat) fun A3 => if k_isO A3 v0 0 then (k_lt (k_wt A3 v0 0 (k_N A : Int)) fun A6 => some (0, A6)) else none) else none) else none
def fX0_init (A : k_H) (x0 x1 : Int) : Option (Int × k_H) := fX0_init_b0 A x0 x1
set_option maxRecDepth 100000 in
theorem okX0_init_b0 (A : k_H) (v0 v1 : Int) (r : Int) (A' : k_H) (h : fX0_init_b0 A v0 v1 = some (r, A')) : k_AW 2 mX0_init 0 [(1, v0), (0, v1)] [] A r A' := by
  unfold fX0_init_b0 at h
  refine k_aload_n (pc := 0) (x := v0) dX0_init_0 rfl rfl ?_
  obtain ⟨hc1, h⟩ := k_pk h
  refine k_objInit (pc := 1) dX0_init_1 (k_gt 220 (by decide +kernel) (by decide +kernel)) (by omega) hc1 (Nat.le_of_ble_eq_true rfl) ?_
  refine k_aload_n (pc := 4) (x := v0) dX0_init_4 rfl rfl ?_
  refine k_iconst (pc := 5) dX0_init_5 ⟨by decide, by decide⟩ ?_
  refine k_iload_n (pc := 6) (x := v1) dX0_init_6 rfl rfl ?_
  refine k_mmax (pc := 7) dX0_init_7 (k_gt 221 (by decide +kernel) (by decide +kernel)) (by omega) (Nat.le_of_ble_eq_true rfl) ?_
  obtain ⟨hc2, h⟩ := k_pk h
  refine k_newa (pc := 10) (n := ((max 0 v1)).toNat) dX0_init_10 k_atI (Int.toNat_of_nonneg hc2.1).symm (by omega) ?_
  obtain ⟨A3, eA4, h⟩ := k_pl h
  refine k_hq eA4 ?_
  obtain ⟨hc5, h⟩ := k_pk h
  refine k_putF (pc := 12) (t := 1) (fi := 0) dX0_init_12 flX0_13 rfl (fun Cn Tt Nn h9 => by cases h9; rfl) rfl rfl hc5 rfl ?_
  obtain ⟨A6, eA7, h⟩ := k_pl h
  refine k_hq eA7 ?_
  obtain ⟨rfl, rfl⟩ := k_pr h
  exact k_retv (pc := 15) dX0_init_15 rfl
theorem okX0_init {A : k_H} {x0 x1 : Int} {r : Int} {A1 : k_H} (h : fX0_init A x0 x1 = some (r, A1)) : k_AM 2 mX0_init [(1, x0), (0, x1)] A r A1 :=
  k_AM_of2 (ls := [(1, x0), (0, x1)]) (by decide) rfl (Nat.le_of_ble_eq_true rfl) ⟨Or.inr rfl, Or.inr rfl, trivial⟩ (okX0_init_b0 A x0 x1 r A1 h)
/-! X1_givenToOthers -/
def fX1_givenToOthers_b24 (k4 : k_H → Int → Int → Int → Int → Option (Int × k_H)) (A : k_H) (v0 v1 v2 v3 : Int) : Option (Int × k_H) := k4 A v0 v1 v2 (k_wr (v3 + 1))
def fX1_givenToOthers_h4 : Nat → k_H → Int → Int → Int → Int → Option (Int × k_H)
  | 0, _, _, _, _, _ => none
  | N + 1, A, v0, v1, v2, v3 => if v3 < 6 then (if v3 = v1 then (fX1_givenToOthers_b24 (fX1_givenToOthers_h4 N) A v0 v1 v2 v3) else (if k_isO A v0 1 then (if k_isA A (k_rd A v0 1) 21 v3 then (fX1_givenToOthers_b24 (fX1_givenToOthers_h4 N) A v0 v1 (k_wr (v2 + (k_rd A (k_rd A v0 1) v3))) v3) else none) else none)) else (some (v2, A))
def fX1_givenToOthers_b0 (A : k_H) (v0 v1 : Int) : Option (Int × k_H) := fX1_givenToOthers_h4 k_FU A v0 v1 0 0
def fX1_givenToOthers (A : k_H) (x0 x1 : Int) : Option (Int × k_H) := fX1_givenToOthers_b0 A x0 x1
set_option maxRecDepth 100000 in
theorem okX1_givenToOthers_b24 (k4 : k_H → Int → Int → Int → Int → Option (Int × k_H)) (hk4 : ∀ (A : k_H) (v0 v1 v2 v3 : Int) (r : Int) (A' : k_H), k4 A v0 v1 v2 v3 = some (r, A') → k_AW 1 mX1_givenToOthers 4 [(1, v0), (0, v1), (0, v2), (0, v3)] [] A r A') (A : k_H) (v0 v1 v2 v3 : Int) (r : Int) (A' : k_H) (h : fX1_givenToOthers_b24 k4 A v0 v1 v2 v3 = some (r, A')) : k_AW 1 mX1_givenToOthers 24 [(1, v0), (0, v1), (0, v2), (0, v3)] [] A r A' := by
  unfold fX1_givenToOthers_b24 at h
  refine k_iinc (pc := 24) (x := v3) dX1_givenToOthers_24 (Nat.le_of_ble_eq_true rfl) rfl rfl ?_
  show k_AW _ _ _ [(1, v0), (0, v1), (0, v2), (0, k_wr (v3 + 1))] _ _ _ _
  refine k_goto (pc := 27) (tgt := 4) dX1_givenToOthers_27 rfl ?_
  refine k_sub (ls' := [(1, v0), (0, v1), (0, v2), (0, k_wr (v3 + 1))]) (k_sbl_ok _ _ ⟨Or.inr rfl, Or.inr rfl, Or.inr rfl, Or.inr rfl, trivial⟩) ?_
  exact hk4 _ _ _ _ _ _ _ h
set_option maxRecDepth 100000 in
theorem okX1_givenToOthers_h4 : ∀ (N : Nat) (A : k_H) (v0 v1 v2 v3 : Int) (r : Int) (A' : k_H), fX1_givenToOthers_h4 N A v0 v1 v2 v3 = some (r, A') → k_AW 1 mX1_givenToOthers 4 [(1, v0), (0, v1), (0, v2), (0, v3)] [] A r A' := by
  intro N
  induction N with
  | zero => intro A v0 v1 v2 v3 r A' h; exact absurd h (by simp [fX1_givenToOthers_h4])
  | succ N ih =>
    intro A v0 v1 v2 v3 r A' h
    rw [fX1_givenToOthers_h4] at h
    refine k_iload_n (pc := 4) (x := v3) dX1_givenToOthers_4 rfl rfl ?_
    refine k_bipush (pc := 5) dX1_givenToOthers_5 ⟨by decide, by decide⟩ (by decide +kernel) ?_
    refine k_icmp_ge (pc := 7) (tgt := 30) dX1_givenToOthers_7 rfl (fun c1 => ?_) (fun c1 => ?_)
    · rw [if_neg (Int.not_lt.mpr c1)] at h
      refine k_iload_n (pc := 30) (x := v2) dX1_givenToOthers_30 rfl rfl ?_
      obtain ⟨rfl, rfl⟩ := k_pr h
      exact k_ret (pc := 31) dX1_givenToOthers_31 rfl rfl
    · rw [if_pos (Int.not_le.mp c1)] at h
      refine k_iload_n (pc := 10) (x := v3) dX1_givenToOthers_10 rfl rfl ?_
      refine k_iload_n (pc := 11) (x := v1) dX1_givenToOthers_11 rfl rfl ?_
      refine k_icmp_eq (pc := 12) (tgt := 24) dX1_givenToOthers_12 rfl (fun c2 => ?_) (fun c2 => ?_)
      · rw [if_pos c2] at h
        refine k_sub (ls' := [(1, v0), (0, v1), (0, v2), (0, v3)]) (k_sbl_ok _ _ ⟨Or.inr rfl, Or.inr rfl, Or.inr rfl, Or.inr rfl, trivial⟩) ?_
        exact okX1_givenToOthers_b24 (fX1_givenToOthers_h4 N) ih _ _ _ _ _ _ _ h
      · rw [if_neg c2] at h
        refine k_iload_n (pc := 15) (x := v2) dX1_givenToOthers_15 rfl rfl ?_
        refine k_aload_n (pc := 16) (x := v0) dX1_givenToOthers_16 rfl rfl ?_
        obtain ⟨hc3, h⟩ := k_pk h
        refine k_getf (pc := 17) (t := 1) (fi := 1) dX1_givenToOthers_17 flX1_20 rfl rfl hc3 ?_
        refine k_iload_n (pc := 20) (x := v3) dX1_givenToOthers_20 rfl rfl ?_
        obtain ⟨hc4, h⟩ := k_pk h
        refine k_iaload (pc := 21) dX1_givenToOthers_21 hc4 ?_
        refine k_iadd (pc := 22) dX1_givenToOthers_22 ?_
        refine k_istore_n (pc := 23) dX1_givenToOthers_23 rfl (Nat.le_of_ble_eq_true rfl) rfl ?_
        show k_AW _ _ _ [(1, v0), (0, v1), (0, k_wr (v2 + (k_rd A (k_rd A v0 1) v3))), (0, v3)] _ _ _ _
        refine k_sub (ls' := [(1, v0), (0, v1), (0, k_wr (v2 + (k_rd A (k_rd A v0 1) v3))), (0, v3)]) (k_sbl_ok _ _ ⟨Or.inr rfl, Or.inr rfl, Or.inr rfl, Or.inr rfl, trivial⟩) ?_
        exact okX1_givenToOthers_b24 (fX1_givenToOthers_h4 N) ih _ _ _ _ _ _ _ h
set_option maxRecDepth 100000 in
theorem okX1_givenToOthers_b0 (A : k_H) (v0 v1 : Int) (r : Int) (A' : k_H) (h : fX1_givenToOthers_b0 A v0 v1 = some (r, A')) : k_AW 1 mX1_givenToOthers 0 [(1, v0), (0, v1), (3, 0), (3, 0)] [] A r A' := by
  unfold fX1_givenToOthers_b0 at h
  refine k_iconst (pc := 0) dX1_givenToOthers_0 ⟨by decide, by decide⟩ ?_
  refine k_istore_n (pc := 1) dX1_givenToOthers_1 rfl (Nat.le_of_ble_eq_true rfl) rfl ?_
  show k_AW _ _ _ [(1, v0), (0, v1), (0, 0), (3, 0)] _ _ _ _
  refine k_iconst (pc := 2) dX1_givenToOthers_2 ⟨by decide, by decide⟩ ?_
  refine k_istore_n (pc := 3) dX1_givenToOthers_3 rfl (Nat.le_of_ble_eq_true rfl) rfl ?_
  show k_AW _ _ _ [(1, v0), (0, v1), (0, 0), (0, 0)] _ _ _ _
  refine k_sub (ls' := [(1, v0), (0, v1), (0, 0), (0, 0)]) (k_sbl_ok _ _ ⟨Or.inr rfl, Or.inr rfl, Or.inr rfl, Or.inr rfl, trivial⟩) ?_
  exact okX1_givenToOthers_h4  _ _ _ _ _ _ _ _ h
theorem okX1_givenToOthers {A : k_H} {x0 x1 : Int} {r : Int} {A1 : k_H} (h : fX1_givenToOthers A x0 x1 = some (r, A1)) : k_AM 1 mX1_givenToOthers [(1, x0), (0, x1)] A r A1 :=
  k_AM_of2 (ls := [(1, x0), (0, x1), (3, 0), (3, 0)]) (by decide) rfl (Nat.le_of_ble_eq_true rfl) ⟨Or.inr rfl, Or.inr rfl, rfl, rfl, trivial⟩ (okX1_givenToOthers_b0 A x0 x1 r A1 h)
/-! X1_milesTo -/
def fX1_milesTo_b0 (A : k_H) (v0 v1 : Int) : Option (Int × k_H) := if k_isO A v0 1 then (if k_isO A v1 1 then (some (k_wr ((if 0 ≤ k_wr ((k_rd A v0 2) - (k_rd A v1 2)) then k_wr ((k_rd A v0 2) - (k_rd A v1 2)) else k_wr (-(k_wr ((k_rd A v0 2) - (k_rd A v1 2))))) + (if 0 ≤ k_wr ((k_rd A v0 3) - (k_rd A v1 3)) then k_wr ((k_rd A v0 3) - (k_rd A v1 3)) else k_wr (-(k_wr ((k_rd A v0 3) - (k_rd A v1 3)))))), A)) else none) else none
def fX1_milesTo (A : k_H) (x0 x1 : Int) : Option (Int × k_H) := fX1_milesTo_b0 A x0 x1
set_option maxRecDepth 100000 in
theorem okX1_milesTo_b0 (A : k_H) (v0 v1 : Int) (r : Int) (A' : k_H) (h : fX1_milesTo_b0 A v0 v1 = some (r, A')) : k_AW 2 mX1_milesTo 0 [(1, v0), (1, v1)] [] A r A' := by
  unfold fX1_milesTo_b0 at h
  refine k_aload_n (pc := 0) (x := v0) dX1_milesTo_0 rfl rfl ?_
  obtain ⟨hc1, h⟩ := k_pk h
  refine k_getf (pc := 1) (t := 0) (fi := 2) dX1_milesTo_1 flX1_35 rfl rfl hc1 ?_
  refine k_aload_n (pc := 4) (x := v1) dX1_milesTo_4 rfl rfl ?_
  obtain ⟨hc2, h⟩ := k_pk h
  refine k_getf (pc := 5) (t := 0) (fi := 2) dX1_milesTo_5 flX1_35 rfl rfl hc2 ?_
  refine k_isub (pc := 8) dX1_milesTo_8 ?_
  refine k_mabs (pc := 9) dX1_milesTo_9 (k_gt 501 (by decide +kernel) (by decide +kernel)) (by omega) (Nat.le_of_ble_eq_true rfl) ?_
  refine k_aload_n (pc := 12) (x := v0) dX1_milesTo_12 rfl rfl ?_
  refine k_getf (pc := 13) (t := 0) (fi := 3) dX1_milesTo_13 flX1_44 rfl rfl hc1 ?_
  refine k_aload_n (pc := 16) (x := v1) dX1_milesTo_16 rfl rfl ?_
  refine k_getf (pc := 17) (t := 0) (fi := 3) dX1_milesTo_17 flX1_44 rfl rfl hc2 ?_
  refine k_isub (pc := 20) dX1_milesTo_20 ?_
  refine k_mabs (pc := 21) dX1_milesTo_21 (k_gt 501 (by decide +kernel) (by decide +kernel)) (by omega) (Nat.le_of_ble_eq_true rfl) ?_
  refine k_iadd (pc := 24) dX1_milesTo_24 ?_
  obtain ⟨rfl, rfl⟩ := k_pr h
  exact k_ret (pc := 25) dX1_milesTo_25 rfl rfl
theorem okX1_milesTo {A : k_H} {x0 x1 : Int} {r : Int} {A1 : k_H} (h : fX1_milesTo A x0 x1 = some (r, A1)) : k_AM 2 mX1_milesTo [(1, x0), (1, x1)] A r A1 :=
  k_AM_of2 (ls := [(1, x0), (1, x1)]) (by decide) rfl (Nat.le_of_ble_eq_true rfl) ⟨Or.inr rfl, Or.inr rfl, trivial⟩ (okX1_milesTo_b0 A x0 x1 r A1 h)
/-! X5_init -/
def fX5_init_b0 (A : k_H) (v0 : Int) : Option (Int × k_H) := if 0 ≤ v0 then (k_lt (k_mk A 21 200) fun A2 => if k_isO A2 v0 5 then (k_lt (k_wt A2 v0 0 (k_N A : Int)) fun A5 => some (0, A5)) else none) else none
def fX5_init (A : k_H) (x0 : Int) : Option (Int × k_H) := fX5_init_b0 A x0
set_option maxRecDepth 100000 in
theorem okX5_init_b0 (A : k_H) (v0 : Int) (r : Int) (A' : k_H) (h : fX5_init_b0 A v0 = some (r, A')) : k_AW 1 mX5_init 0 [(1, v0)] [] A r A' := by
  unfold fX5_init_b0 at h
  refine k_aload_n (pc := 0) (x := v0) dX5_init_0 rfl rfl ?_
  obtain ⟨hc1, h⟩ := k_pk h
  refine k_objInit (pc := 1) dX5_init_1 (k_gt 36 (by decide +kernel) (by decide +kernel)) (by omega) hc1 (Nat.le_of_ble_eq_true rfl) ?_
  refine k_aload_n (pc := 4) (x := v0) dX5_init_4 rfl rfl ?_
  refine k_sipush (pc := 5) dX5_init_5 ⟨by decide, by decide⟩ (by decide +kernel) ?_
  refine k_newa (pc := 8) (n := 200) dX5_init_8 k_atI rfl (by decide) ?_
  obtain ⟨A2, eA3, h⟩ := k_pl h
  refine k_hq eA3 ?_
  obtain ⟨hc4, h⟩ := k_pk h
  refine k_putF (pc := 10) (t := 1) (fi := 0) dX5_init_10 flX5_9 rfl (fun Cn Tt Nn h9 => by cases h9; rfl) rfl rfl hc4 rfl ?_
  obtain ⟨A5, eA6, h⟩ := k_pl h
  refine k_hq eA6 ?_
  obtain ⟨rfl, rfl⟩ := k_pr h
  exact k_retv (pc := 13) dX5_init_13 rfl
theorem okX5_init {A : k_H} {x0 : Int} {r : Int} {A1 : k_H} (h : fX5_init A x0 = some (r, A1)) : k_AM 1 mX5_init [(1, x0)] A r A1 :=
  k_AM_of2 (ls := [(1, x0)]) (by decide) rfl (Nat.le_of_ble_eq_true rfl) ⟨Or.inr rfl, trivial⟩ (okX5_init_b0 A x0 r A1 h)
/-! X5_append -/
def fX5_append_h3 : Nat → k_H → Int → Int → Int → Option (Int × k_H)
  | 0, _, _, _, _ => none
  | N + 1, A, v0, v1, v2 => if 0 ≤ v2 then (if k_isO A v0 5 then (if (k_rd A v0 1) < 200 then (if k_isA A (k_rd A v0 0) 21 (k_rd A v0 1) then (k_lt (k_wt A (k_rd A v0 0) (k_rd A v0 1) (k_and (k_ushr v1 v2) 255)) fun A5 => k_lt (k_wt A5 v0 1 (k_wr ((k_rd A5 v0 1) + 1))) fun A8 => (fX5_append_h3 N) A8 v0 v1 (k_wr (v2 + (-8)))) else none) else (some (0, A))) else none) else (some (0, A))
def fX5_append_b0 (A : k_H) (v0 v1 : Int) : Option (Int × k_H) := fX5_append_h3 k_FU A v0 v1 24
def fX5_append (A : k_H) (x0 x1 : Int) : Option (Int × k_H) := fX5_append_b0 A x0 x1
set_option maxRecDepth 100000 in
theorem okX5_append_h3 : ∀ (N : Nat) (A : k_H) (v0 v1 v2 : Int) (r : Int) (A' : k_H), fX5_append_h3 N A v0 v1 v2 = some (r, A') → k_AW 1 mX5_append 3 [(1, v0), (0, v1), (0, v2)] [] A r A' := by
  intro N
  induction N with
  | zero => intro A v0 v1 v2 r A' h; exact absurd h (by simp [fX5_append_h3])
  | succ N ih =>
    intro A v0 v1 v2 r A' h
    rw [fX5_append_h3] at h
    refine k_iload_n (pc := 3) (x := v2) dX5_append_3 rfl rfl ?_
    refine k_if_lt (pc := 4) (tgt := 49) dX5_append_4 rfl (fun c1 => ?_) (fun c1 => ?_)
    · rw [if_neg (Int.not_le.mpr c1)] at h
      obtain ⟨rfl, rfl⟩ := k_pr h
      exact k_retv (pc := 49) dX5_append_49 rfl
    · rw [if_pos (Int.not_lt.mp c1)] at h
      refine k_aload_n (pc := 7) (x := v0) dX5_append_7 rfl rfl ?_
      obtain ⟨hc2, h⟩ := k_pk h
      refine k_getf (pc := 8) (t := 0) (fi := 1) dX5_append_8 flX5_15 rfl rfl hc2 ?_
      refine k_sipush (pc := 11) dX5_append_11 ⟨by decide, by decide⟩ (by decide +kernel) ?_
      refine k_icmp_ge (pc := 14) (tgt := 49) dX5_append_14 rfl (fun c3 => ?_) (fun c3 => ?_)
      · rw [if_neg (Int.not_lt.mpr c3)] at h
        obtain ⟨rfl, rfl⟩ := k_pr h
        exact k_retv (pc := 49) dX5_append_49 rfl
      · rw [if_pos (Int.not_le.mp c3)] at h
        refine k_aload_n (pc := 17) (x := v0) dX5_append_17 rfl rfl ?_
        refine k_getf (pc := 18) (t := 1) (fi := 0) dX5_append_18 flX5_9 rfl rfl hc2 ?_
        refine k_aload_n (pc := 21) (x := v0) dX5_append_21 rfl rfl ?_
        refine k_getf (pc := 22) (t := 0) (fi := 1) dX5_append_22 flX5_15 rfl rfl hc2 ?_
        refine k_iload_n (pc := 25) (x := v1) dX5_append_25 rfl rfl ?_
        refine k_iload_n (pc := 26) (x := v2) dX5_append_26 rfl rfl ?_
        refine k_iushr (pc := 27) dX5_append_27 ?_
        refine k_sipush (pc := 28) dX5_append_28 ⟨by decide, by decide⟩ (by decide +kernel) ?_
        refine k_iand (pc := 31) dX5_append_31 ?_
        obtain ⟨hc4, h⟩ := k_pk h
        refine k_iastore (pc := 32) dX5_append_32 hc4 ?_
        obtain ⟨A5, eA6, h⟩ := k_pl h
        refine k_hq eA6 ?_
        refine k_aload_n (pc := 33) (x := v0) dX5_append_33 rfl rfl ?_
        refine k_dup (pc := 34) dX5_append_34 (Nat.le_of_ble_eq_true rfl) ?_
        have hf7 := k_oW eA6 hc2
        refine k_getf (pc := 35) (t := 0) (fi := 1) dX5_append_35 flX5_15 rfl rfl hf7 ?_
        refine k_iconst (pc := 38) dX5_append_38 ⟨by decide, by decide⟩ ?_
        refine k_iadd (pc := 39) dX5_append_39 ?_
        refine k_putf (pc := 40) (t := 0) (fi := 1) dX5_append_40 flX5_15 rfl rfl hf7 rfl ?_
        obtain ⟨A8, eA9, h⟩ := k_pl h
        refine k_hq eA9 ?_
        refine k_iinc (pc := 43) (x := v2) dX5_append_43 (Nat.le_of_ble_eq_true rfl) rfl rfl ?_
        show k_AW _ _ _ [(1, v0), (0, v1), (0, k_wr (v2 + (-8)))] _ _ _ _
        refine k_goto (pc := 46) (tgt := 3) dX5_append_46 rfl ?_
        refine k_sub (ls' := [(1, v0), (0, v1), (0, k_wr (v2 + (-8)))]) (k_sbl_ok _ _ ⟨Or.inr rfl, Or.inr rfl, Or.inr rfl, trivial⟩) ?_
        exact ih _ _ _ _ _ _ h
set_option maxRecDepth 100000 in
theorem okX5_append_b0 (A : k_H) (v0 v1 : Int) (r : Int) (A' : k_H) (h : fX5_append_b0 A v0 v1 = some (r, A')) : k_AW 1 mX5_append 0 [(1, v0), (0, v1), (3, 0)] [] A r A' := by
  unfold fX5_append_b0 at h
  refine k_bipush (pc := 0) dX5_append_0 ⟨by decide, by decide⟩ (by decide +kernel) ?_
  refine k_istore_n (pc := 2) dX5_append_2 rfl (Nat.le_of_ble_eq_true rfl) rfl ?_
  show k_AW _ _ _ [(1, v0), (0, v1), (0, 24)] _ _ _ _
  refine k_sub (ls' := [(1, v0), (0, v1), (0, 24)]) (k_sbl_ok _ _ ⟨Or.inr rfl, Or.inr rfl, Or.inr rfl, trivial⟩) ?_
  exact okX5_append_h3  _ _ _ _ _ _ _ h
theorem okX5_append {A : k_H} {x0 x1 : Int} {r : Int} {A1 : k_H} (h : fX5_append A x0 x1 = some (r, A1)) : k_AM 1 mX5_append [(1, x0), (0, x1)] A r A1 :=
  k_AM_of2 (ls := [(1, x0), (0, x1), (3, 0)]) (by decide) rfl (Nat.le_of_ble_eq_true rfl) ⟨Or.inr rfl, Or.inr rfl, rfl, trivial⟩ (okX5_append_b0 A x0 x1 r A1 h)
/-! X5_copyFrom -/
def fX5_copyFrom_b0 (A : k_H) (v0 v1 : Int) : Option (Int × k_H) := if k_isO A v1 5 then (if k_isO A v0 5 then (if k_isR A (k_rd A v1 0) 21 then (if k_isR A (k_rd A v0 0) 21 then (if (0 : Int) ≤ 0 ∧ (0 : Int) ≤ 0 ∧ (0 : Int) ≤ 200 ∧ (0 : Int) + 200 ≤ ((k_kd A (k_rd A v1 0)).2 : Int) ∧ (0 : Int) + 200 ≤ ((k_kd A (k_rd A v0 0)).2 : Int) then (k_lt (k_cp A (k_rd A v1 0) 0 (k_rd A v0 0) 0 200) fun A6 => k_lt (k_wt A6 v0 1 (k_rd A6 v1 1)) fun A10 => some (0, A10)) else none) else none) else none) else none) else none
def fX5_copyFrom (A : k_H) (x0 x1 : Int) : Option (Int × k_H) := fX5_copyFrom_b0 A x0 x1
set_option maxRecDepth 100000 in
theorem okX5_copyFrom_b0 (A : k_H) (v0 v1 : Int) (r : Int) (A' : k_H) (h : fX5_copyFrom_b0 A v0 v1 = some (r, A')) : k_AW 1 mX5_copyFrom 0 [(1, v0), (1, v1)] [] A r A' := by
  unfold fX5_copyFrom_b0 at h
  refine k_aload_n (pc := 0) (x := v1) dX5_copyFrom_0 rfl rfl ?_
  obtain ⟨hc1, h⟩ := k_pk h
  refine k_getf (pc := 1) (t := 1) (fi := 0) dX5_copyFrom_1 flX5_9 rfl rfl hc1 ?_
  refine k_iconst (pc := 4) dX5_copyFrom_4 ⟨by decide, by decide⟩ ?_
  refine k_aload_n (pc := 5) (x := v0) dX5_copyFrom_5 rfl rfl ?_
  obtain ⟨hc2, h⟩ := k_pk h
  refine k_getf (pc := 6) (t := 1) (fi := 0) dX5_copyFrom_6 flX5_9 rfl rfl hc2 ?_
  refine k_iconst (pc := 9) dX5_copyFrom_9 ⟨by decide, by decide⟩ ?_
  refine k_sipush (pc := 10) dX5_copyFrom_10 ⟨by decide, by decide⟩ (by decide +kernel) ?_
  obtain ⟨hc3, h⟩ := k_pk h
  obtain ⟨hc4, h⟩ := k_pk h
  obtain ⟨hc5, h⟩ := k_pk h
  refine k_copy (pc := 13) dX5_copyFrom_13 (k_gt 600 (by decide +kernel) (by decide +kernel)) (by omega) (Nat.le_of_ble_eq_true rfl) hc3 hc4 hc5.1 hc5.2.1 hc5.2.2.1 hc5.2.2.2.1 hc5.2.2.2.2 ?_
  obtain ⟨A6, eA7, h⟩ := k_pl h
  refine k_hq eA7 ?_
  refine k_aload_n (pc := 16) (x := v0) dX5_copyFrom_16 rfl rfl ?_
  refine k_aload_n (pc := 17) (x := v1) dX5_copyFrom_17 rfl rfl ?_
  have hf8 := k_oX eA7 hc1
  refine k_getf (pc := 18) (t := 0) (fi := 1) dX5_copyFrom_18 flX5_15 rfl rfl hf8 ?_
  have hf9 := k_oX eA7 hc2
  refine k_putf (pc := 21) (t := 0) (fi := 1) dX5_copyFrom_21 flX5_15 rfl rfl hf9 rfl ?_
  obtain ⟨A10, eA11, h⟩ := k_pl h
  refine k_hq eA11 ?_
  obtain ⟨rfl, rfl⟩ := k_pr h
  exact k_retv (pc := 24) dX5_copyFrom_24 rfl
theorem okX5_copyFrom {A : k_H} {x0 x1 : Int} {r : Int} {A1 : k_H} (h : fX5_copyFrom A x0 x1 = some (r, A1)) : k_AM 1 mX5_copyFrom [(1, x0), (1, x1)] A r A1 :=
  k_AM_of2 (ls := [(1, x0), (1, x1)]) (by decide) rfl (Nat.le_of_ble_eq_true rfl) ⟨Or.inr rfl, Or.inr rfl, trivial⟩ (okX5_copyFrom_b0 A x0 x1 r A1 h)
/-! X5_byteAt -/
def fX5_byteAt_b0 (A : k_H) (v0 v1 : Int) : Option (Int × k_H) := if 0 ≤ v1 then (if k_isO A v0 5 then (if v1 < (k_rd A v0 1) then (if k_isA A (k_rd A v0 0) 21 v1 then (some ((k_rd A (k_rd A v0 0) v1), A)) else none) else (some ((-1), A))) else none) else (some ((-1), A))
def fX5_byteAt (A : k_H) (x0 x1 : Int) : Option (Int × k_H) := fX5_byteAt_b0 A x0 x1
set_option maxRecDepth 100000 in
theorem okX5_byteAt_b0 (A : k_H) (v0 v1 : Int) (r : Int) (A' : k_H) (h : fX5_byteAt_b0 A v0 v1 = some (r, A')) : k_AW 1 mX5_byteAt 0 [(1, v0), (0, v1)] [] A r A' := by
  unfold fX5_byteAt_b0 at h
  refine k_iload_n (pc := 0) (x := v1) dX5_byteAt_0 rfl rfl ?_
  refine k_if_lt (pc := 1) (tgt := 21) dX5_byteAt_1 rfl (fun c1 => ?_) (fun c1 => ?_)
  · rw [if_neg (Int.not_le.mpr c1)] at h
    refine k_iconst (pc := 21) dX5_byteAt_21 ⟨by decide, by decide⟩ ?_
    obtain ⟨rfl, rfl⟩ := k_pr h
    exact k_ret (pc := 22) dX5_byteAt_22 rfl rfl
  · rw [if_pos (Int.not_lt.mp c1)] at h
    refine k_iload_n (pc := 4) (x := v1) dX5_byteAt_4 rfl rfl ?_
    refine k_aload_n (pc := 5) (x := v0) dX5_byteAt_5 rfl rfl ?_
    obtain ⟨hc2, h⟩ := k_pk h
    refine k_getf (pc := 6) (t := 0) (fi := 1) dX5_byteAt_6 flX5_15 rfl rfl hc2 ?_
    refine k_icmp_ge (pc := 9) (tgt := 21) dX5_byteAt_9 rfl (fun c3 => ?_) (fun c3 => ?_)
    · rw [if_neg (Int.not_lt.mpr c3)] at h
      refine k_iconst (pc := 21) dX5_byteAt_21 ⟨by decide, by decide⟩ ?_
      obtain ⟨rfl, rfl⟩ := k_pr h
      exact k_ret (pc := 22) dX5_byteAt_22 rfl rfl
    · rw [if_pos (Int.not_le.mp c3)] at h
      refine k_aload_n (pc := 12) (x := v0) dX5_byteAt_12 rfl rfl ?_
      refine k_getf (pc := 13) (t := 1) (fi := 0) dX5_byteAt_13 flX5_9 rfl rfl hc2 ?_
      refine k_iload_n (pc := 16) (x := v1) dX5_byteAt_16 rfl rfl ?_
      obtain ⟨hc4, h⟩ := k_pk h
      refine k_iaload (pc := 17) dX5_byteAt_17 hc4 ?_
      refine k_goto (pc := 18) (tgt := 22) dX5_byteAt_18 rfl ?_
      obtain ⟨rfl, rfl⟩ := k_pr h
      exact k_ret (pc := 22) dX5_byteAt_22 rfl rfl
theorem okX5_byteAt {A : k_H} {x0 x1 : Int} {r : Int} {A1 : k_H} (h : fX5_byteAt A x0 x1 = some (r, A1)) : k_AM 1 mX5_byteAt [(1, x0), (0, x1)] A r A1 :=
  k_AM_of2 (ls := [(1, x0), (0, x1)]) (by decide) rfl (Nat.le_of_ble_eq_true rfl) ⟨Or.inr rfl, Or.inr rfl, trivial⟩ (okX5_byteAt_b0 A x0 x1 r A1 h)
/-! X5_holdsAmps -/
def fX5_holdsAmps_h20 : Nat → k_H → Int → Int → Option (Int × k_H)
  | 0, _, _, _ => none
  | N + 1, A, v0, v3 => if k_isO A v0 5 then (if v3 < (k_rd A v0 1) then (if k_isA A (k_rd A v0 0) 21 v3 then (if (k_rd A (k_rd A v0 0) v3) = 0 then (some (0, A)) else ((fX5_holdsAmps_h20 N) A v0 (k_wr (v3 + 1)))) else none) else (some (1, A))) else none
def fX5_holdsAmps_b0 (A : k_H) (v0 v1 v2 : Int) : Option (Int × k_H) := if k_isO A v0 5 then (if v1 ≤ (k_rd A v0 1) then (if v2 < (k_rd A v0 1) then (some (0, A)) else (fX5_holdsAmps_h20 k_FU A v0 0)) else (some (0, A))) else none
def fX5_holdsAmps (A : k_H) (x0 x1 x2 : Int) : Option (Int × k_H) := fX5_holdsAmps_b0 A x0 x1 x2
set_option maxRecDepth 100000 in
theorem okX5_holdsAmps_h20 : ∀ (N : Nat) (A : k_H) (v0 v3 : Int) (r : Int) (A' : k_H), fX5_holdsAmps_h20 N A v0 v3 = some (r, A') → k_AW 1 mX5_holdsAmps 20 [(1, v0), (3, 0), (3, 0), (0, v3)] [] A r A' := by
  intro N
  induction N with
  | zero => intro A v0 v3 r A' h; exact absurd h (by simp [fX5_holdsAmps_h20])
  | succ N ih =>
    intro A v0 v3 r A' h
    rw [fX5_holdsAmps_h20] at h
    refine k_iload_n (pc := 20) (x := v3) dX5_holdsAmps_20 rfl rfl ?_
    refine k_aload_n (pc := 21) (x := v0) dX5_holdsAmps_21 rfl rfl ?_
    obtain ⟨hc1, h⟩ := k_pk h
    refine k_getf (pc := 22) (t := 0) (fi := 1) dX5_holdsAmps_22 flX5_15 rfl rfl hc1 ?_
    refine k_icmp_ge (pc := 25) (tgt := 45) dX5_holdsAmps_25 rfl (fun c2 => ?_) (fun c2 => ?_)
    · rw [if_neg (Int.not_lt.mpr c2)] at h
      refine k_iconst (pc := 45) dX5_holdsAmps_45 ⟨by decide, by decide⟩ ?_
      obtain ⟨rfl, rfl⟩ := k_pr h
      exact k_ret (pc := 46) dX5_holdsAmps_46 rfl (by decide +kernel)
    · rw [if_pos (Int.not_le.mp c2)] at h
      refine k_aload_n (pc := 28) (x := v0) dX5_holdsAmps_28 rfl rfl ?_
      refine k_getf (pc := 29) (t := 1) (fi := 0) dX5_holdsAmps_29 flX5_9 rfl rfl hc1 ?_
      refine k_iload_n (pc := 32) (x := v3) dX5_holdsAmps_32 rfl rfl ?_
      obtain ⟨hc3, h⟩ := k_pk h
      refine k_iaload (pc := 33) dX5_holdsAmps_33 hc3 ?_
      refine k_if_ne (pc := 34) (tgt := 39) dX5_holdsAmps_34 rfl (fun c4 => ?_) (fun c4 => ?_)
      · rw [if_neg c4] at h
        refine k_iinc (pc := 39) (x := v3) dX5_holdsAmps_39 (Nat.le_of_ble_eq_true rfl) rfl rfl ?_
        show k_AW _ _ _ [(1, v0), (3, 0), (3, 0), (0, k_wr (v3 + 1))] _ _ _ _
        refine k_goto (pc := 42) (tgt := 20) dX5_holdsAmps_42 rfl ?_
        refine k_sub (ls' := [(1, v0), (3, 0), (3, 0), (0, k_wr (v3 + 1))]) (k_sbl_ok _ _ ⟨Or.inr rfl, Or.inl rfl, Or.inl rfl, Or.inr rfl, trivial⟩) ?_
        exact ih _ _ _ _ _ h
      · rw [if_pos (Classical.not_not.mp c4)] at h
        refine k_iconst (pc := 37) dX5_holdsAmps_37 ⟨by decide, by decide⟩ ?_
        obtain ⟨rfl, rfl⟩ := k_pr h
        exact k_ret (pc := 38) dX5_holdsAmps_38 rfl (by decide +kernel)
set_option maxRecDepth 100000 in
theorem okX5_holdsAmps_b0 (A : k_H) (v0 v1 v2 : Int) (r : Int) (A' : k_H) (h : fX5_holdsAmps_b0 A v0 v1 v2 = some (r, A')) : k_AW 1 mX5_holdsAmps 0 [(1, v0), (0, v1), (0, v2), (3, 0)] [] A r A' := by
  unfold fX5_holdsAmps_b0 at h
  refine k_aload_n (pc := 0) (x := v0) dX5_holdsAmps_0 rfl rfl ?_
  obtain ⟨hc1, h⟩ := k_pk h
  refine k_getf (pc := 1) (t := 0) (fi := 1) dX5_holdsAmps_1 flX5_15 rfl rfl hc1 ?_
  refine k_iload_n (pc := 4) (x := v1) dX5_holdsAmps_4 rfl rfl ?_
  refine k_icmp_lt (pc := 5) (tgt := 16) dX5_holdsAmps_5 rfl (fun c2 => ?_) (fun c2 => ?_)
  · rw [if_neg (Int.not_le.mpr c2)] at h
    refine k_iconst (pc := 16) dX5_holdsAmps_16 ⟨by decide, by decide⟩ ?_
    obtain ⟨rfl, rfl⟩ := k_pr h
    exact k_ret (pc := 17) dX5_holdsAmps_17 rfl (by decide +kernel)
  · rw [if_pos (Int.not_lt.mp c2)] at h
    refine k_aload_n (pc := 8) (x := v0) dX5_holdsAmps_8 rfl rfl ?_
    refine k_getf (pc := 9) (t := 0) (fi := 1) dX5_holdsAmps_9 flX5_15 rfl rfl hc1 ?_
    refine k_iload_n (pc := 12) (x := v2) dX5_holdsAmps_12 rfl rfl ?_
    refine k_icmp_le (pc := 13) (tgt := 18) dX5_holdsAmps_13 rfl (fun c3 => ?_) (fun c3 => ?_)
    · rw [if_neg (Int.not_lt.mpr c3)] at h
      refine k_iconst (pc := 18) dX5_holdsAmps_18 ⟨by decide, by decide⟩ ?_
      refine k_istore_n (pc := 19) dX5_holdsAmps_19 rfl (Nat.le_of_ble_eq_true rfl) rfl ?_
      show k_AW _ _ _ [(1, v0), (0, v1), (0, v2), (0, 0)] _ _ _ _
      refine k_sub (ls' := [(1, v0), (3, 0), (3, 0), (0, 0)]) (k_sbl_ok _ _ ⟨Or.inr rfl, Or.inl rfl, Or.inl rfl, Or.inr rfl, trivial⟩) ?_
      exact okX5_holdsAmps_h20  _ _ _ _ _ _ h
    · rw [if_pos (Int.not_le.mp c3)] at h
      refine k_iconst (pc := 16) dX5_holdsAmps_16 ⟨by decide, by decide⟩ ?_
      obtain ⟨rfl, rfl⟩ := k_pr h
      exact k_ret (pc := 17) dX5_holdsAmps_17 rfl (by decide +kernel)
theorem okX5_holdsAmps {A : k_H} {x0 x1 x2 : Int} {r : Int} {A1 : k_H} (h : fX5_holdsAmps A x0 x1 x2 = some (r, A1)) : k_AM 1 mX5_holdsAmps [(1, x0), (0, x1), (0, x2)] A r A1 :=
  k_AM_of2 (ls := [(1, x0), (0, x1), (0, x2), (3, 0)]) (by decide) rfl (Nat.le_of_ble_eq_true rfl) ⟨Or.inr rfl, Or.inr rfl, Or.inr rfl, rfl, trivial⟩ (okX5_holdsAmps_b0 A x0 x1 x2 r A1 h)
/-! X0_take -/
def fX0_take_h18 : Nat → k_H → Int → Int → Int → Option (Int × k_H)
  | 0, _, _, _, _ => none
  | N + 1, A, v0, v1, v2 => if k_isO A v0 0 then (if v2 < (k_rd A v0 1) then (if k_isO A v1 5 then (k_bd (fX5_byteAt A v1 v2) fun r3 A4 => if k_isA A4 (k_rd A v0 0) 21 v2 then (k_lt (k_wt A4 (k_rd A v0 0) v2 r3) fun A8 => (fX0_take_h18 N) A8 v0 v1 (k_wr (v2 + 1))) else none) else none) else (some (0, A))) else none
def fX0_take_b0 (A : k_H) (v0 v1 : Int) : Option (Int × k_H) := if k_isO A v1 5 then (if k_isO A v0 0 then (if k_isR A (k_rd A v0 0) 21 then (if (k_kd A (k_rd A v0 0)).2 < 2147483648 then (k_lt (k_wt A v0 1 (min (k_rd A v1 1) ((k_kd A (k_rd A v0 0)).2 : Int))) fun A5 => fX0_take_h18 k_FU A5 v0 v1 0) else none) else none) else none) else none
def fX0_take (A : k_H) (x0 x1 : Int) : Option (Int × k_H) := fX0_take_b0 A x0 x1
set_option maxRecDepth 100000 in
theorem okX0_take_h18 : ∀ (N : Nat) (A : k_H) (v0 v1 v2 : Int) (r : Int) (A' : k_H), fX0_take_h18 N A v0 v1 v2 = some (r, A') → k_AW 2 mX0_take 18 [(1, v0), (1, v1), (0, v2)] [] A r A' := by
  intro N
  induction N with
  | zero => intro A v0 v1 v2 r A' h; exact absurd h (by simp [fX0_take_h18])
  | succ N ih =>
    intro A v0 v1 v2 r A' h
    rw [fX0_take_h18] at h
    refine k_iload_n (pc := 18) (x := v2) dX0_take_18 rfl rfl ?_
    refine k_aload_n (pc := 19) (x := v0) dX0_take_19 rfl rfl ?_
    obtain ⟨hc1, h⟩ := k_pk h
    refine k_getf (pc := 20) (t := 0) (fi := 1) dX0_take_20 flX0_28 rfl rfl hc1 ?_
    refine k_icmp_ge (pc := 23) (tgt := 43) dX0_take_23 rfl (fun c2 => ?_) (fun c2 => ?_)
    · rw [if_neg (Int.not_lt.mpr c2)] at h
      obtain ⟨rfl, rfl⟩ := k_pr h
      exact k_retv (pc := 43) dX0_take_43 rfl
    · rw [if_pos (Int.not_le.mp c2)] at h
      refine k_aload_n (pc := 26) (x := v0) dX0_take_26 rfl rfl ?_
      refine k_getf (pc := 27) (t := 1) (fi := 0) dX0_take_27 flX0_13 rfl rfl hc1 ?_
      refine k_iload_n (pc := 30) (x := v2) dX0_take_30 rfl rfl ?_
      refine k_aload_n (pc := 31) (x := v1) dX0_take_31 rfl rfl ?_
      refine k_iload_n (pc := 32) (x := v2) dX0_take_32 rfl rfl ?_
      obtain ⟨hc6, h⟩ := k_pk h
      obtain ⟨r3, A4, hq5, h⟩ := k_pb h
      refine k_callV (pc := 33) (ci := 5) (a := v1) (as := [(0, v2)]) (st := [(0, v2), (1, (k_rd A v0 0))]) (st1 := [(0, r3), (0, v2), (1, (k_rd A v0 0))]) dX0_take_33 cbX5_byteAt (k_gt 382 (by decide +kernel) (by decide +kernel)) cvX5_byteAt.1 cvX5_byteAt.2 rfl (by decide) hc6 (by omega) rfl (Nat.le_of_ble_eq_true rfl) (okX5_byteAt hq5) rfl ?_
      obtain ⟨hc7, h⟩ := k_pk h
      refine k_iastore (pc := 36) dX0_take_36 hc7 ?_
      obtain ⟨A8, eA9, h⟩ := k_pl h
      refine k_hq eA9 ?_
      refine k_iinc (pc := 37) (x := v2) dX0_take_37 (Nat.le_of_ble_eq_true rfl) rfl rfl ?_
      show k_AW _ _ _ [(1, v0), (1, v1), (0, k_wr (v2 + 1))] _ _ _ _
      refine k_goto (pc := 40) (tgt := 18) dX0_take_40 rfl ?_
      refine k_sub (ls' := [(1, v0), (1, v1), (0, k_wr (v2 + 1))]) (k_sbl_ok _ _ ⟨Or.inr rfl, Or.inr rfl, Or.inr rfl, trivial⟩) ?_
      exact ih _ _ _ _ _ _ h
set_option maxRecDepth 100000 in
theorem okX0_take_b0 (A : k_H) (v0 v1 : Int) (r : Int) (A' : k_H) (h : fX0_take_b0 A v0 v1 = some (r, A')) : k_AW 2 mX0_take 0 [(1, v0), (1, v1), (3, 0)] [] A r A' := by
  unfold fX0_take_b0 at h
  refine k_aload_n (pc := 0) (x := v0) dX0_take_0 rfl rfl ?_
  refine k_aload_n (pc := 1) (x := v1) dX0_take_1 rfl rfl ?_
  obtain ⟨hc1, h⟩ := k_pk h
  refine k_getf (pc := 2) (t := 0) (fi := 1) dX0_take_2 flX0_19 rfl rfl hc1 ?_
  refine k_aload_n (pc := 5) (x := v0) dX0_take_5 rfl rfl ?_
  obtain ⟨hc2, h⟩ := k_pk h
  refine k_getf (pc := 6) (t := 1) (fi := 0) dX0_take_6 flX0_13 rfl rfl hc2 ?_
  obtain ⟨hc3, h⟩ := k_pk h
  obtain ⟨hc4, h⟩ := k_pk h
  refine k_alen (pc := 9) (K := 21) dX0_take_9 (by decide) hc3 hc4 ?_
  refine k_mmin (pc := 10) dX0_take_10 (k_gt 379 (by decide +kernel) (by decide +kernel)) (by omega) (Nat.le_of_ble_eq_true rfl) ?_
  refine k_putf (pc := 13) (t := 0) (fi := 1) dX0_take_13 flX0_28 rfl rfl hc2 rfl ?_
  obtain ⟨A5, eA6, h⟩ := k_pl h
  refine k_hq eA6 ?_
  refine k_iconst (pc := 16) dX0_take_16 ⟨by decide, by decide⟩ ?_
  refine k_istore_n (pc := 17) dX0_take_17 rfl (Nat.le_of_ble_eq_true rfl) rfl ?_
  show k_AW _ _ _ [(1, v0), (1, v1), (0, 0)] _ _ _ _
  refine k_sub (ls' := [(1, v0), (1, v1), (0, 0)]) (k_sbl_ok _ _ ⟨Or.inr rfl, Or.inr rfl, Or.inr rfl, trivial⟩) ?_
  exact okX0_take_h18  _ _ _ _ _ _ _ h
theorem okX0_take {A : k_H} {x0 x1 : Int} {r : Int} {A1 : k_H} (h : fX0_take A x0 x1 = some (r, A1)) : k_AM 2 mX0_take [(1, x0), (1, x1)] A r A1 :=
  k_AM_of2 (ls := [(1, x0), (1, x1), (3, 0)]) (by decide) rfl (Nat.le_of_ble_eq_true rfl) ⟨Or.inr rfl, Or.inr rfl, rfl, trivial⟩ (okX0_take_b0 A x0 x1 r A1 h)
/-! X1_init -/
def fX1_init_b0 (A : k_H) (v0 : Int) : Option (Int × k_H) := if 0 ≤ v0 then (k_lt (k_mk A 0 2) fun A2 => if 0 ≤ (k_N A : Int) then (k_bd (fX0_init A2 (k_N A : Int) 4) fun r4 A5 => if k_isO A5 v0 1 then (k_lt (k_wt A5 v0 0 (k_N A : Int)) fun A9 => k_lt (k_mk A9 21 6) fun A11 => if k_isO A11 v0 1 then (k_lt (k_wt A11 v0 1 (k_N A9 : Int)) fun A14 => some (0, A14)) else none) else none) else none) else none
def fX1_init (A : k_H) (x0 : Int) : Option (Int × k_H) := fX1_init_b0 A x0
set_option maxRecDepth 100000 in
theorem okX1_init_b0 (A : k_H) (v0 : Int) (r : Int) (A' : k_H) (h : fX1_init_b0 A v0 = some (r, A')) : k_AW 3 mX1_init 0 [(1, v0)] [] A r A' := by
  unfold fX1_init_b0 at h
  refine k_aload_n (pc := 0) (x := v0) dX1_init_0 rfl rfl ?_
  obtain ⟨hc1, h⟩ := k_pk h
  refine k_objInit (pc := 1) dX1_init_1 (k_gt 214 (by decide +kernel) (by decide +kernel)) (by omega) hc1 (Nat.le_of_ble_eq_true rfl) ?_
  refine k_aload_n (pc := 4) (x := v0) dX1_init_4 rfl rfl ?_
  refine k_new (pc := 5) (ci := 0) (n := 2) dX1_init_5 ncX1_9 rfl ?_
  obtain ⟨A2, eA3, h⟩ := k_pl h
  refine k_hq eA3 ?_
  refine k_dup (pc := 8) dX1_init_8 (Nat.le_of_ble_eq_true rfl) ?_
  refine k_iconst (pc := 9) dX1_init_9 ⟨by decide, by decide⟩ ?_
  obtain ⟨hc7, h⟩ := k_pk h
  obtain ⟨r4, A5, hq6, h⟩ := k_pb h
  refine k_callI (pc := 10) (a := (k_N A : Int)) (as := [(0, 4)]) (st := [(1, (k_N A : Int)), (1, v0)]) (st1 := [(1, (k_N A : Int)), (1, v0)]) dX1_init_10 cbX0_init (k_gt 217 (by decide +kernel) (by decide +kernel)) (k_gt 218 (by decide +kernel) (by decide +kernel)) rfl rfl hc7 (by omega) rfl (Nat.le_of_ble_eq_true rfl) (okX0_init hq6) rfl ?_
  obtain ⟨hc8, h⟩ := k_pk h
  refine k_putF (pc := 13) (t := 1) (fi := 0) dX1_init_13 flX1_14 rfl (fun Cn Tt Nn h9 => by cases h9; rfl) rfl rfl hc8 rfl ?_
  obtain ⟨A9, eA10, h⟩ := k_pl h
  refine k_hq eA10 ?_
  refine k_aload_n (pc := 16) (x := v0) dX1_init_16 rfl rfl ?_
  refine k_bipush (pc := 17) dX1_init_17 ⟨by decide, by decide⟩ (by decide +kernel) ?_
  refine k_newa (pc := 19) (n := 6) dX1_init_19 k_atI rfl (by decide) ?_
  obtain ⟨A11, eA12, h⟩ := k_pl h
  refine k_hq eA12 ?_
  obtain ⟨hc13, h⟩ := k_pk h
  refine k_putF (pc := 21) (t := 1) (fi := 1) dX1_init_21 flX1_20 rfl (fun Cn Tt Nn h9 => by cases h9; rfl) rfl rfl hc13 rfl ?_
  obtain ⟨A14, eA15, h⟩ := k_pl h
  refine k_hq eA15 ?_
  obtain ⟨rfl, rfl⟩ := k_pr h
  exact k_retv (pc := 24) dX1_init_24 rfl
theorem okX1_init {A : k_H} {x0 : Int} {r : Int} {A1 : k_H} (h : fX1_init A x0 = some (r, A1)) : k_AM 3 mX1_init [(1, x0)] A r A1 :=
  k_AM_of2 (ls := [(1, x0)]) (by decide) rfl (Nat.le_of_ble_eq_true rfl) ⟨Or.inr rfl, trivial⟩ (okX1_init_b0 A x0 r A1 h)
/-! X1_build -/
def fX1_build_b0 (A : k_H) (v0 v1 v2 v3 : Int) : Option (Int × k_H) := if k_isO A v0 1 then (k_lt (k_wt A v0 4 v1) fun A2 => k_lt (k_wt A2 v0 5 v2) fun A5 => if k_isO A5 (k_rd A5 v0 0) 0 then (k_bd (fX0_take A5 (k_rd A5 v0 0) v3) fun r8 A9 => some (0, A9)) else none) else none
def fX1_build (A : k_H) (x0 x1 x2 x3 : Int) : Option (Int × k_H) := fX1_build_b0 A x0 x1 x2 x3
set_option maxRecDepth 100000 in
theorem okX1_build_b0 (A : k_H) (v0 v1 v2 v3 : Int) (r : Int) (A' : k_H) (h : fX1_build_b0 A v0 v1 v2 v3 = some (r, A')) : k_AW 3 mX1_build 0 [(1, v0), (0, v1), (0, v2), (1, v3)] [] A r A' := by
  unfold fX1_build_b0 at h
  refine k_aload_n (pc := 0) (x := v0) dX1_build_0 rfl rfl ?_
  refine k_iload_n (pc := 1) (x := v1) dX1_build_1 rfl rfl ?_
  obtain ⟨hc1, h⟩ := k_pk h
  refine k_putf (pc := 2) (t := 0) (fi := 4) dX1_build_2 flX1_24 rfl rfl hc1 rfl ?_
  obtain ⟨A2, eA3, h⟩ := k_pl h
  refine k_hq eA3 ?_
  refine k_aload_n (pc := 5) (x := v0) dX1_build_5 rfl rfl ?_
  refine k_iload_n (pc := 6) (x := v2) dX1_build_6 rfl rfl ?_
  have hf4 := k_oW eA3 hc1
  refine k_putf (pc := 7) (t := 0) (fi := 5) dX1_build_7 flX1_28 rfl rfl hf4 rfl ?_
  obtain ⟨A5, eA6, h⟩ := k_pl h
  refine k_hq eA6 ?_
  refine k_aload_n (pc := 10) (x := v0) dX1_build_10 rfl rfl ?_
  have hf7 := k_oW eA6 hf4
  refine k_getf (pc := 11) (t := 1) (fi := 0) dX1_build_11 flX1_14 rfl rfl hf7 ?_
  refine k_aload_n (pc := 14) (x := v3) dX1_build_14 rfl rfl ?_
  obtain ⟨hc11, h⟩ := k_pk h
  obtain ⟨r8, A9, hq10, h⟩ := k_pb h
  refine k_callV (pc := 15) (ci := 0) (a := (k_rd A5 v0 0)) (as := [(1, v3)]) (st := []) (st1 := []) dX1_build_15 cbX0_take (k_gt 375 (by decide +kernel) (by decide +kernel)) cvX0_take.1 cvX0_take.2 rfl (by decide) hc11 (by omega) rfl (Nat.le_of_ble_eq_true rfl) (okX0_take hq10) rfl ?_
  obtain ⟨rfl, rfl⟩ := k_pr h
  exact k_retv (pc := 18) dX1_build_18 rfl
theorem okX1_build {A : k_H} {x0 x1 x2 x3 : Int} {r : Int} {A1 : k_H} (h : fX1_build A x0 x1 x2 x3 = some (r, A1)) : k_AM 3 mX1_build [(1, x0), (0, x1), (0, x2), (1, x3)] A r A1 :=
  k_AM_of2 (ls := [(1, x0), (0, x1), (0, x2), (1, x3)]) (by decide) rfl (Nat.le_of_ble_eq_true rfl) ⟨Or.inr rfl, Or.inr rfl, Or.inr rfl, Or.inr rfl, trivial⟩ (okX1_build_b0 A x0 x1 x2 x3 r A1 h)
end
