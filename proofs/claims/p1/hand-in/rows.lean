section
-- ===== PART A: goes FIRST, ahead of the names: the tables' words, and 'selects' of the private methods out of them =====
/-- a private method of a class that the tables say can be made, by its rows of tables_1 -/
def lw_okq (q : MethodName × Nat) : Prop := (q.1.cls ≠ "java/lang/invoke/MethodHandle" ∧ q.1.cls ≠ "java/lang/invoke/VarHandle") ∧ Cond.instantiable q.1.cls q.2 ∈ tables_1 ∧ Cond.privateMethod q.1 ∈ tables_1 ∧ Cond.instanceMethod q.1 ∈ tables_1
theorem lw_p0 : lw_okq (⟨"LandBase$Tape", "takeWord", "()V"⟩, 6) := ⟨⟨by decide +kernel, by decide +kernel⟩, List.mem_of_getElem? (i := 31) (by decide +kernel), List.mem_of_getElem? (i := 399) (by decide +kernel), List.mem_of_getElem? (i := 400) (by decide +kernel)⟩
theorem lw_p1 : lw_okq (⟨"LandBase$Tape", "takeNumber", "()V"⟩, 6) := ⟨⟨by decide +kernel, by decide +kernel⟩, List.mem_of_getElem? (i := 31) (by decide +kernel), List.mem_of_getElem? (i := 403) (by decide +kernel), List.mem_of_getElem? (i := 404) (by decide +kernel)⟩
theorem lw_p2 : lw_okq (⟨"LandBase$Tape", "isToken", "(Ljava/lang/String;II)Z"⟩, 6) := ⟨⟨by decide +kernel, by decide +kernel⟩, List.mem_of_getElem? (i := 31) (by decide +kernel), List.mem_of_getElem? (i := 466) (by decide +kernel), List.mem_of_getElem? (i := 467) (by decide +kernel)⟩
theorem lw_p3 : lw_okq (⟨"LandBase$Reader", "readNumbers", "(LLandBase$Tape;I)Z"⟩, 6) := ⟨⟨by decide +kernel, by decide +kernel⟩, List.mem_of_getElem? (i := 62) (by decide +kernel), List.mem_of_getElem? (i := 470) (by decide +kernel), List.mem_of_getElem? (i := 471) (by decide +kernel)⟩
theorem lw_p4 : lw_okq (⟨"LandBase$Reader", "readShape", "(LLandBase$Tape;)Z"⟩, 6) := ⟨⟨by decide +kernel, by decide +kernel⟩, List.mem_of_getElem? (i := 62) (by decide +kernel), List.mem_of_getElem? (i := 475) (by decide +kernel), List.mem_of_getElem? (i := 476) (by decide +kernel)⟩
theorem lw_p5 : lw_okq (⟨"LandBase$Reader", "readRings", "(LLandBase$Tape;)Z"⟩, 6) := ⟨⟨by decide +kernel, by decide +kernel⟩, List.mem_of_getElem? (i := 62) (by decide +kernel), List.mem_of_getElem? (i := 484) (by decide +kernel), List.mem_of_getElem? (i := 485) (by decide +kernel)⟩
theorem lw_p6 : lw_okq (⟨"LandBase$Reader", "readRing", "(LLandBase$Tape;I)Z"⟩, 6) := ⟨⟨by decide +kernel, by decide +kernel⟩, List.mem_of_getElem? (i := 62) (by decide +kernel), List.mem_of_getElem? (i := 492) (by decide +kernel), List.mem_of_getElem? (i := 493) (by decide +kernel)⟩
theorem lw_p7 : lw_okq (⟨"LandBase$Reader", "readPlace", "(LLandBase$Tape;)Z"⟩, 6) := ⟨⟨by decide +kernel, by decide +kernel⟩, List.mem_of_getElem? (i := 62) (by decide +kernel), List.mem_of_getElem? (i := 496) (by decide +kernel), List.mem_of_getElem? (i := 497) (by decide +kernel)⟩
theorem lw_p8 : lw_okq (⟨"LandBase$Reader", "readFillKind", "(LLandBase$Tape;)Z"⟩, 6) := ⟨⟨by decide +kernel, by decide +kernel⟩, List.mem_of_getElem? (i := 62) (by decide +kernel), List.mem_of_getElem? (i := 518) (by decide +kernel), List.mem_of_getElem? (i := 519) (by decide +kernel)⟩
theorem lw_p9 : lw_okq (⟨"LandBase$Reader", "readRelation", "(LLandBase$Tape;)Z"⟩, 6) := ⟨⟨by decide +kernel, by decide +kernel⟩, List.mem_of_getElem? (i := 62) (by decide +kernel), List.mem_of_getElem? (i := 523) (by decide +kernel), List.mem_of_getElem? (i := 524) (by decide +kernel)⟩
theorem lw_p10 : lw_okq (⟨"LandBase", "add", "()I"⟩, 11) := ⟨⟨by decide +kernel, by decide +kernel⟩, List.mem_of_getElem? (i := 23) (by decide +kernel), List.mem_of_getElem? (i := 528) (by decide +kernel), List.mem_of_getElem? (i := 529) (by decide +kernel)⟩
theorem lw_p11 : lw_okq (⟨"LandBase$Checker", "doHolesFit", "(LLandBase$Shape;)Z"⟩, 2) := ⟨⟨by decide +kernel, by decide +kernel⟩, List.mem_of_getElem? (i := 301) (by decide +kernel), List.mem_of_getElem? (i := 568) (by decide +kernel), List.mem_of_getElem? (i := 569) (by decide +kernel)⟩
theorem lw_p12 : lw_okq (⟨"LandBase$Cutter", "isWayApart", "(LLandBase$Shape;I)Z"⟩, 14) := ⟨⟨by decide +kernel, by decide +kernel⟩, List.mem_of_getElem? (i := 249) (by decide +kernel), List.mem_of_getElem? (i := 582) (by decide +kernel), List.mem_of_getElem? (i := 583) (by decide +kernel)⟩
theorem lw_p13 : lw_okq (⟨"LandBase$Cutter", "gather", "(LLandBase$Shape;I)V"⟩, 14) := ⟨⟨by decide +kernel, by decide +kernel⟩, List.mem_of_getElem? (i := 249) (by decide +kernel), List.mem_of_getElem? (i := 586) (by decide +kernel), List.mem_of_getElem? (i := 587) (by decide +kernel)⟩
theorem lw_p14 : lw_okq (⟨"LandBase$Cutter", "cross", "(LLandBase$Shape;IIJ)V"⟩, 14) := ⟨⟨by decide +kernel, by decide +kernel⟩, List.mem_of_getElem? (i := 249) (by decide +kernel), List.mem_of_getElem? (i := 594) (by decide +kernel), List.mem_of_getElem? (i := 595) (by decide +kernel)⟩
theorem lw_p15 : lw_okq (⟨"LandBase$Cutter", "noteCut", "(JJI)V"⟩, 14) := ⟨⟨by decide +kernel, by decide +kernel⟩, List.mem_of_getElem? (i := 249) (by decide +kernel), List.mem_of_getElem? (i := 598) (by decide +kernel), List.mem_of_getElem? (i := 599) (by decide +kernel)⟩
def lw_privs_1 : List (MethodName × Nat) := [(⟨"LandBase$Tape", "takeWord", "()V"⟩, 6), (⟨"LandBase$Tape", "takeNumber", "()V"⟩, 6), (⟨"LandBase$Tape", "isToken", "(Ljava/lang/String;II)Z"⟩, 6), (⟨"LandBase$Reader", "readNumbers", "(LLandBase$Tape;I)Z"⟩, 6), (⟨"LandBase$Reader", "readShape", "(LLandBase$Tape;)Z"⟩, 6), (⟨"LandBase$Reader", "readRings", "(LLandBase$Tape;)Z"⟩, 6), (⟨"LandBase$Reader", "readRing", "(LLandBase$Tape;I)Z"⟩, 6), (⟨"LandBase$Reader", "readPlace", "(LLandBase$Tape;)Z"⟩, 6), (⟨"LandBase$Reader", "readFillKind", "(LLandBase$Tape;)Z"⟩, 6), (⟨"LandBase$Reader", "readRelation", "(LLandBase$Tape;)Z"⟩, 6), (⟨"LandBase", "add", "()I"⟩, 11), (⟨"LandBase$Checker", "doHolesFit", "(LLandBase$Shape;)Z"⟩, 2), (⟨"LandBase$Cutter", "isWayApart", "(LLandBase$Shape;I)Z"⟩, 14), (⟨"LandBase$Cutter", "gather", "(LLandBase$Shape;I)V"⟩, 14), (⟨"LandBase$Cutter", "cross", "(LLandBase$Shape;IIJ)V"⟩, 14), (⟨"LandBase$Cutter", "noteCut", "(JJI)V"⟩, 14)]
theorem lw_r1 : ∀ q ∈ lw_privs_1, lw_okq q := List.forall_mem_cons.mpr ⟨lw_p0, List.forall_mem_cons.mpr ⟨lw_p1, List.forall_mem_cons.mpr ⟨lw_p2, List.forall_mem_cons.mpr ⟨lw_p3, List.forall_mem_cons.mpr ⟨lw_p4, List.forall_mem_cons.mpr ⟨lw_p5, List.forall_mem_cons.mpr ⟨lw_p6, List.forall_mem_cons.mpr ⟨lw_p7, List.forall_mem_cons.mpr ⟨lw_p8, List.forall_mem_cons.mpr ⟨lw_p9, List.forall_mem_cons.mpr ⟨lw_p10, List.forall_mem_cons.mpr ⟨lw_p11, List.forall_mem_cons.mpr ⟨lw_p12, List.forall_mem_cons.mpr ⟨lw_p13, List.forall_mem_cons.mpr ⟨lw_p14, List.forall_mem_cons.mpr ⟨lw_p15, fun _ h => absurd h List.not_mem_nil⟩⟩⟩⟩⟩⟩⟩⟩⟩⟩⟩⟩⟩⟩⟩⟩
theorem lw_p16 : lw_okq (⟨"LandBase$Cutter", "goAlong", "(LLandBase$Shape;II)V"⟩, 14) := ⟨⟨by decide +kernel, by decide +kernel⟩, List.mem_of_getElem? (i := 249) (by decide +kernel), List.mem_of_getElem? (i := 602) (by decide +kernel), List.mem_of_getElem? (i := 603) (by decide +kernel)⟩
theorem lw_p17 : lw_okq (⟨"LandBase$Cutter", "sortCuts", "()V"⟩, 14) := ⟨⟨by decide +kernel, by decide +kernel⟩, List.mem_of_getElem? (i := 249) (by decide +kernel), List.mem_of_getElem? (i := 612) (by decide +kernel), List.mem_of_getElem? (i := 613) (by decide +kernel)⟩
theorem lw_p18 : lw_okq (⟨"LandBase$Cutter", "sweep", "()I"⟩, 14) := ⟨⟨by decide +kernel, by decide +kernel⟩, List.mem_of_getElem? (i := 249) (by decide +kernel), List.mem_of_getElem? (i := 630) (by decide +kernel), List.mem_of_getElem? (i := 631) (by decide +kernel)⟩
theorem lw_p19 : lw_okq (⟨"LandBase$Cutter", "lieOfPiece", "()I"⟩, 14) := ⟨⟨by decide +kernel, by decide +kernel⟩, List.mem_of_getElem? (i := 249) (by decide +kernel), List.mem_of_getElem? (i := 634) (by decide +kernel), List.mem_of_getElem? (i := 635) (by decide +kernel)⟩
theorem lw_p20 : lw_okq (⟨"LandBase$Checker", "isOnePiece", "(LLandBase$Shape;)Z"⟩, 2) := ⟨⟨by decide +kernel, by decide +kernel⟩, List.mem_of_getElem? (i := 301) (by decide +kernel), List.mem_of_getElem? (i := 638) (by decide +kernel), List.mem_of_getElem? (i := 639) (by decide +kernel)⟩
theorem lw_p21 : lw_okq (⟨"LandBase$Checker", "closesCircle", "(LLandBase$Shape;I)Z"⟩, 2) := ⟨⟨by decide +kernel, by decide +kernel⟩, List.mem_of_getElem? (i := 301) (by decide +kernel), List.mem_of_getElem? (i := 645) (by decide +kernel), List.mem_of_getElem? (i := 646) (by decide +kernel)⟩
theorem lw_p22 : lw_okq (⟨"LandBase$Checker", "joinGroups", "(II)V"⟩, 2) := ⟨⟨by decide +kernel, by decide +kernel⟩, List.mem_of_getElem? (i := 301) (by decide +kernel), List.mem_of_getElem? (i := 656) (by decide +kernel), List.mem_of_getElem? (i := 657) (by decide +kernel)⟩
theorem lw_p23 : lw_okq (⟨"LandBase$Keeper", "writeLog", "(I)I"⟩, 12) := ⟨⟨by decide +kernel, by decide +kernel⟩, List.mem_of_getElem? (i := 176) (by decide +kernel), List.mem_of_getElem? (i := 685) (by decide +kernel), List.mem_of_getElem? (i := 686) (by decide +kernel)⟩
theorem lw_p24 : lw_okq (⟨"LandBase$Keeper", "save", "()I"⟩, 12) := ⟨⟨by decide +kernel, by decide +kernel⟩, List.mem_of_getElem? (i := 176) (by decide +kernel), List.mem_of_getElem? (i := 689) (by decide +kernel), List.mem_of_getElem? (i := 690) (by decide +kernel)⟩
theorem lw_p25 : lw_okq (⟨"LandBase", "drop", "()I"⟩, 11) := ⟨⟨by decide +kernel, by decide +kernel⟩, List.mem_of_getElem? (i := 23) (by decide +kernel), List.mem_of_getElem? (i := 697) (by decide +kernel), List.mem_of_getElem? (i := 698) (by decide +kernel)⟩
theorem lw_p26 : lw_okq (⟨"LandBase", "move", "()I"⟩, 11) := ⟨⟨by decide +kernel, by decide +kernel⟩, List.mem_of_getElem? (i := 23) (by decide +kernel), List.mem_of_getElem? (i := 705) (by decide +kernel), List.mem_of_getElem? (i := 706) (by decide +kernel)⟩
theorem lw_p27 : lw_okq (⟨"LandBase", "fill", "()I"⟩, 11) := ⟨⟨by decide +kernel, by decide +kernel⟩, List.mem_of_getElem? (i := 23) (by decide +kernel), List.mem_of_getElem? (i := 722) (by decide +kernel), List.mem_of_getElem? (i := 723) (by decide +kernel)⟩
theorem lw_p28 : lw_okq (⟨"LandBase", "isFillInPlane", "()Z"⟩, 11) := ⟨⟨by decide +kernel, by decide +kernel⟩, List.mem_of_getElem? (i := 23) (by decide +kernel), List.mem_of_getElem? (i := 726) (by decide +kernel), List.mem_of_getElem? (i := 727) (by decide +kernel)⟩
theorem lw_p29 : lw_okq (⟨"LandBase", "drawShape", "(LLandBase$Shape;I)I"⟩, 11) := ⟨⟨by decide +kernel, by decide +kernel⟩, List.mem_of_getElem? (i := 23) (by decide +kernel), List.mem_of_getElem? (i := 732) (by decide +kernel), List.mem_of_getElem? (i := 733) (by decide +kernel)⟩
theorem lw_p30 : lw_okq (⟨"LandBase", "find", "()I"⟩, 11) := ⟨⟨by decide +kernel, by decide +kernel⟩, List.mem_of_getElem? (i := 23) (by decide +kernel), List.mem_of_getElem? (i := 747) (by decide +kernel), List.mem_of_getElem? (i := 748) (by decide +kernel)⟩
theorem lw_p31 : lw_okq (⟨"LandBase$Relations", "doMeet", "(LLandBase$Shape;LLandBase$Shape;)Z"⟩, 1) := ⟨⟨by decide +kernel, by decide +kernel⟩, List.mem_of_getElem? (i := 314) (by decide +kernel), List.mem_of_getElem? (i := 755) (by decide +kernel), List.mem_of_getElem? (i := 756) (by decide +kernel)⟩
def lw_privs_2 : List (MethodName × Nat) := [(⟨"LandBase$Cutter", "goAlong", "(LLandBase$Shape;II)V"⟩, 14), (⟨"LandBase$Cutter", "sortCuts", "()V"⟩, 14), (⟨"LandBase$Cutter", "sweep", "()I"⟩, 14), (⟨"LandBase$Cutter", "lieOfPiece", "()I"⟩, 14), (⟨"LandBase$Checker", "isOnePiece", "(LLandBase$Shape;)Z"⟩, 2), (⟨"LandBase$Checker", "closesCircle", "(LLandBase$Shape;I)Z"⟩, 2), (⟨"LandBase$Checker", "joinGroups", "(II)V"⟩, 2), (⟨"LandBase$Keeper", "writeLog", "(I)I"⟩, 12), (⟨"LandBase$Keeper", "save", "()I"⟩, 12), (⟨"LandBase", "drop", "()I"⟩, 11), (⟨"LandBase", "move", "()I"⟩, 11), (⟨"LandBase", "fill", "()I"⟩, 11), (⟨"LandBase", "isFillInPlane", "()Z"⟩, 11), (⟨"LandBase", "drawShape", "(LLandBase$Shape;I)I"⟩, 11), (⟨"LandBase", "find", "()I"⟩, 11), (⟨"LandBase$Relations", "doMeet", "(LLandBase$Shape;LLandBase$Shape;)Z"⟩, 1)]
theorem lw_r2 : ∀ q ∈ lw_privs_2, lw_okq q := List.forall_mem_cons.mpr ⟨lw_p16, List.forall_mem_cons.mpr ⟨lw_p17, List.forall_mem_cons.mpr ⟨lw_p18, List.forall_mem_cons.mpr ⟨lw_p19, List.forall_mem_cons.mpr ⟨lw_p20, List.forall_mem_cons.mpr ⟨lw_p21, List.forall_mem_cons.mpr ⟨lw_p22, List.forall_mem_cons.mpr ⟨lw_p23, List.forall_mem_cons.mpr ⟨lw_p24, List.forall_mem_cons.mpr ⟨lw_p25, List.forall_mem_cons.mpr ⟨lw_p26, List.forall_mem_cons.mpr ⟨lw_p27, List.forall_mem_cons.mpr ⟨lw_p28, List.forall_mem_cons.mpr ⟨lw_p29, List.forall_mem_cons.mpr ⟨lw_p30, List.forall_mem_cons.mpr ⟨lw_p31, fun _ h => absurd h List.not_mem_nil⟩⟩⟩⟩⟩⟩⟩⟩⟩⟩⟩⟩⟩⟩⟩⟩
theorem lw_p32 : lw_okq (⟨"LandBase$Relations", "doInteriorsMeet", "(LLandBase$Shape;LLandBase$Shape;)Z"⟩, 1) := ⟨⟨by decide +kernel, by decide +kernel⟩, List.mem_of_getElem? (i := 314) (by decide +kernel), List.mem_of_getElem? (i := 780) (by decide +kernel), List.mem_of_getElem? (i := 781) (by decide +kernel)⟩
theorem lw_p33 : lw_okq (⟨"LandBase$Relations", "isWithin", "(LLandBase$Shape;LLandBase$Shape;)Z"⟩, 1) := ⟨⟨by decide +kernel, by decide +kernel⟩, List.mem_of_getElem? (i := 314) (by decide +kernel), List.mem_of_getElem? (i := 795) (by decide +kernel), List.mem_of_getElem? (i := 796) (by decide +kernel)⟩
theorem lw_p34 : lw_okq (⟨"LandBase", "offer", "(I)V"⟩, 11) := ⟨⟨by decide +kernel, by decide +kernel⟩, List.mem_of_getElem? (i := 23) (by decide +kernel), List.mem_of_getElem? (i := 812) (by decide +kernel), List.mem_of_getElem? (i := 813) (by decide +kernel)⟩
theorem lw_p35 : lw_okq (⟨"LandBase", "window", "()I"⟩, 11) := ⟨⟨by decide +kernel, by decide +kernel⟩, List.mem_of_getElem? (i := 23) (by decide +kernel), List.mem_of_getElem? (i := 816) (by decide +kernel), List.mem_of_getElem? (i := 817) (by decide +kernel)⟩
theorem lw_p36 : lw_okq (⟨"LandBase", "near", "()I"⟩, 11) := ⟨⟨by decide +kernel, by decide +kernel⟩, List.mem_of_getElem? (i := 23) (by decide +kernel), List.mem_of_getElem? (i := 824) (by decide +kernel), List.mem_of_getElem? (i := 825) (by decide +kernel)⟩
theorem lw_p37 : lw_okq (⟨"LandBase$Distance", "keep", "(JJJ)V"⟩, 3) := ⟨⟨by decide +kernel, by decide +kernel⟩, List.mem_of_getElem? (i := 325) (by decide +kernel), List.mem_of_getElem? (i := 832) (by decide +kernel), List.mem_of_getElem? (i := 833) (by decide +kernel)⟩
theorem lw_p38 : lw_okq (⟨"LandBase$Distance", "compareParts", "(JJJ)I"⟩, 3) := ⟨⟨by decide +kernel, by decide +kernel⟩, List.mem_of_getElem? (i := 325) (by decide +kernel), List.mem_of_getElem? (i := 837) (by decide +kernel), List.mem_of_getElem? (i := 838) (by decide +kernel)⟩
theorem lw_p39 : lw_okq (⟨"LandBase$Distance", "measureFoot", "(LLandBase$Shape;IJJ)V"⟩, 3) := ⟨⟨by decide +kernel, by decide +kernel⟩, List.mem_of_getElem? (i := 325) (by decide +kernel), List.mem_of_getElem? (i := 843) (by decide +kernel), List.mem_of_getElem? (i := 844) (by decide +kernel)⟩
theorem lw_p40 : lw_okq (⟨"LandBase", "sortIn", "(I)V"⟩, 11) := ⟨⟨by decide +kernel, by decide +kernel⟩, List.mem_of_getElem? (i := 23) (by decide +kernel), List.mem_of_getElem? (i := 847) (by decide +kernel), List.mem_of_getElem? (i := 848) (by decide +kernel)⟩
theorem lw_p41 : lw_okq (⟨"LandBase", "join", "()I"⟩, 11) := ⟨⟨by decide +kernel, by decide +kernel⟩, List.mem_of_getElem? (i := 23) (by decide +kernel), List.mem_of_getElem? (i := 855) (by decide +kernel), List.mem_of_getElem? (i := 856) (by decide +kernel)⟩
theorem lw_p42 : lw_okq (⟨"LandBase$Keeper", "begin", "()I"⟩, 12) := ⟨⟨by decide +kernel, by decide +kernel⟩, List.mem_of_getElem? (i := 176) (by decide +kernel), List.mem_of_getElem? (i := 863) (by decide +kernel), List.mem_of_getElem? (i := 864) (by decide +kernel)⟩
theorem lw_p43 : lw_okq (⟨"LandBase$Keeper", "commit", "()I"⟩, 12) := ⟨⟨by decide +kernel, by decide +kernel⟩, List.mem_of_getElem? (i := 176) (by decide +kernel), List.mem_of_getElem? (i := 867) (by decide +kernel), List.mem_of_getElem? (i := 868) (by decide +kernel)⟩
theorem lw_p44 : lw_okq (⟨"LandBase$Keeper", "abort", "()I"⟩, 12) := ⟨⟨by decide +kernel, by decide +kernel⟩, List.mem_of_getElem? (i := 176) (by decide +kernel), List.mem_of_getElem? (i := 871) (by decide +kernel), List.mem_of_getElem? (i := 872) (by decide +kernel)⟩
theorem lw_p45 : lw_okq (⟨"LandBase", "putAnswer", "(I)V"⟩, 11) := ⟨⟨by decide +kernel, by decide +kernel⟩, List.mem_of_getElem? (i := 23) (by decide +kernel), List.mem_of_getElem? (i := 875) (by decide +kernel), List.mem_of_getElem? (i := 876) (by decide +kernel)⟩
theorem lw_p46 : lw_okq (⟨"LandBase", "putInt", "(I)V"⟩, 11) := ⟨⟨by decide +kernel, by decide +kernel⟩, List.mem_of_getElem? (i := 23) (by decide +kernel), List.mem_of_getElem? (i := 879) (by decide +kernel), List.mem_of_getElem? (i := 880) (by decide +kernel)⟩
theorem lw_p47 : lw_okq (⟨"LandBase", "shapeOf", "(I)LLandBase$Shape;"⟩, 11) := ⟨⟨by decide +kernel, by decide +kernel⟩, List.mem_of_getElem? (i := 23) (by decide +kernel), List.mem_of_getElem? (i := 931) (by decide +kernel), List.mem_of_getElem? (i := 932) (by decide +kernel)⟩
def lw_privs_3 : List (MethodName × Nat) := [(⟨"LandBase$Relations", "doInteriorsMeet", "(LLandBase$Shape;LLandBase$Shape;)Z"⟩, 1), (⟨"LandBase$Relations", "isWithin", "(LLandBase$Shape;LLandBase$Shape;)Z"⟩, 1), (⟨"LandBase", "offer", "(I)V"⟩, 11), (⟨"LandBase", "window", "()I"⟩, 11), (⟨"LandBase", "near", "()I"⟩, 11), (⟨"LandBase$Distance", "keep", "(JJJ)V"⟩, 3), (⟨"LandBase$Distance", "compareParts", "(JJJ)I"⟩, 3), (⟨"LandBase$Distance", "measureFoot", "(LLandBase$Shape;IJJ)V"⟩, 3), (⟨"LandBase", "sortIn", "(I)V"⟩, 11), (⟨"LandBase", "join", "()I"⟩, 11), (⟨"LandBase$Keeper", "begin", "()I"⟩, 12), (⟨"LandBase$Keeper", "commit", "()I"⟩, 12), (⟨"LandBase$Keeper", "abort", "()I"⟩, 12), (⟨"LandBase", "putAnswer", "(I)V"⟩, 11), (⟨"LandBase", "putInt", "(I)V"⟩, 11), (⟨"LandBase", "shapeOf", "(I)LLandBase$Shape;"⟩, 11)]
theorem lw_r3 : ∀ q ∈ lw_privs_3, lw_okq q := List.forall_mem_cons.mpr ⟨lw_p32, List.forall_mem_cons.mpr ⟨lw_p33, List.forall_mem_cons.mpr ⟨lw_p34, List.forall_mem_cons.mpr ⟨lw_p35, List.forall_mem_cons.mpr ⟨lw_p36, List.forall_mem_cons.mpr ⟨lw_p37, List.forall_mem_cons.mpr ⟨lw_p38, List.forall_mem_cons.mpr ⟨lw_p39, List.forall_mem_cons.mpr ⟨lw_p40, List.forall_mem_cons.mpr ⟨lw_p41, List.forall_mem_cons.mpr ⟨lw_p42, List.forall_mem_cons.mpr ⟨lw_p43, List.forall_mem_cons.mpr ⟨lw_p44, List.forall_mem_cons.mpr ⟨lw_p45, List.forall_mem_cons.mpr ⟨lw_p46, List.forall_mem_cons.mpr ⟨lw_p47, fun _ h => absurd h List.not_mem_nil⟩⟩⟩⟩⟩⟩⟩⟩⟩⟩⟩⟩⟩⟩⟩⟩
theorem lw_p48 : lw_okq (⟨"LandBaseModel", "lay", "(J)V"⟩, 58) := ⟨⟨by decide +kernel, by decide +kernel⟩, List.mem_of_getElem? (i := 981) (by decide +kernel), List.mem_of_getElem? (i := 1236) (by decide +kernel), List.mem_of_getElem? (i := 1237) (by decide +kernel)⟩
theorem lw_p49 : lw_okq (⟨"LandBaseModel", "next", "()V"⟩, 58) := ⟨⟨by decide +kernel, by decide +kernel⟩, List.mem_of_getElem? (i := 981) (by decide +kernel), List.mem_of_getElem? (i := 1249) (by decide +kernel), List.mem_of_getElem? (i := 1250) (by decide +kernel)⟩
theorem lw_p50 : lw_okq (⟨"LandBaseModel", "byteAt", "(I)I"⟩, 58) := ⟨⟨by decide +kernel, by decide +kernel⟩, List.mem_of_getElem? (i := 981) (by decide +kernel), List.mem_of_getElem? (i := 1253) (by decide +kernel), List.mem_of_getElem? (i := 1254) (by decide +kernel)⟩
theorem lw_p51 : lw_okq (⟨"LandBaseModel", "readNumber", "(Z)V"⟩, 58) := ⟨⟨by decide +kernel, by decide +kernel⟩, List.mem_of_getElem? (i := 981) (by decide +kernel), List.mem_of_getElem? (i := 1263) (by decide +kernel), List.mem_of_getElem? (i := 1264) (by decide +kernel)⟩
theorem lw_p52 : lw_okq (⟨"LandBaseModel", "statement", "()V"⟩, 58) := ⟨⟨by decide +kernel, by decide +kernel⟩, List.mem_of_getElem? (i := 981) (by decide +kernel), List.mem_of_getElem? (i := 1270) (by decide +kernel), List.mem_of_getElem? (i := 1271) (by decide +kernel)⟩
theorem lw_p53 : lw_okq (⟨"LandBaseModel", "isWord", "(Ljava/lang/String;)Z"⟩, 58) := ⟨⟨by decide +kernel, by decide +kernel⟩, List.mem_of_getElem? (i := 981) (by decide +kernel), List.mem_of_getElem? (i := 1275) (by decide +kernel), List.mem_of_getElem? (i := 1276) (by decide +kernel)⟩
theorem lw_p54 : lw_okq (⟨"LandBaseModel", "readInts", "(I)V"⟩, 58) := ⟨⟨by decide +kernel, by decide +kernel⟩, List.mem_of_getElem? (i := 981) (by decide +kernel), List.mem_of_getElem? (i := 1281) (by decide +kernel), List.mem_of_getElem? (i := 1282) (by decide +kernel)⟩
theorem lw_p55 : lw_okq (⟨"LandBaseModel", "readInt", "()I"⟩, 58) := ⟨⟨by decide +kernel, by decide +kernel⟩, List.mem_of_getElem? (i := 981) (by decide +kernel), List.mem_of_getElem? (i := 1285) (by decide +kernel), List.mem_of_getElem? (i := 1286) (by decide +kernel)⟩
theorem lw_p56 : lw_okq (⟨"LandBaseModel", "refuse", "()V"⟩, 58) := ⟨⟨by decide +kernel, by decide +kernel⟩, List.mem_of_getElem? (i := 981) (by decide +kernel), List.mem_of_getElem? (i := 1289) (by decide +kernel), List.mem_of_getElem? (i := 1290) (by decide +kernel)⟩
theorem lw_p57 : lw_okq (⟨"LandBaseModel", "readShape", "()V"⟩, 58) := ⟨⟨by decide +kernel, by decide +kernel⟩, List.mem_of_getElem? (i := 981) (by decide +kernel), List.mem_of_getElem? (i := 1293) (by decide +kernel), List.mem_of_getElem? (i := 1294) (by decide +kernel)⟩
theorem lw_p58 : lw_okq (⟨"LandBaseModel", "expect", "(I)V"⟩, 58) := ⟨⟨by decide +kernel, by decide +kernel⟩, List.mem_of_getElem? (i := 981) (by decide +kernel), List.mem_of_getElem? (i := 1304) (by decide +kernel), List.mem_of_getElem? (i := 1305) (by decide +kernel)⟩
theorem lw_p59 : lw_okq (⟨"LandBaseModel", "isSign", "(I)Z"⟩, 58) := ⟨⟨by decide +kernel, by decide +kernel⟩, List.mem_of_getElem? (i := 981) (by decide +kernel), List.mem_of_getElem? (i := 1308) (by decide +kernel), List.mem_of_getElem? (i := 1309) (by decide +kernel)⟩
theorem lw_p60 : lw_okq (⟨"LandBaseModel", "readPlace", "()V"⟩, 58) := ⟨⟨by decide +kernel, by decide +kernel⟩, List.mem_of_getElem? (i := 981) (by decide +kernel), List.mem_of_getElem? (i := 1312) (by decide +kernel), List.mem_of_getElem? (i := 1313) (by decide +kernel)⟩
theorem lw_p61 : lw_okq (⟨"LandBaseModel", "readPlaceRow", "()V"⟩, 58) := ⟨⟨by decide +kernel, by decide +kernel⟩, List.mem_of_getElem? (i := 981) (by decide +kernel), List.mem_of_getElem? (i := 1324) (by decide +kernel), List.mem_of_getElem? (i := 1325) (by decide +kernel)⟩
theorem lw_p62 : lw_okq (⟨"LandBaseModel", "add", "(I)V"⟩, 58) := ⟨⟨by decide +kernel, by decide +kernel⟩, List.mem_of_getElem? (i := 981) (by decide +kernel), List.mem_of_getElem? (i := 1328) (by decide +kernel), List.mem_of_getElem? (i := 1329) (by decide +kernel)⟩
theorem lw_p63 : lw_okq (⟨"LandBaseModel", "put", "(I)V"⟩, 58) := ⟨⟨by decide +kernel, by decide +kernel⟩, List.mem_of_getElem? (i := 981) (by decide +kernel), List.mem_of_getElem? (i := 1332) (by decide +kernel), List.mem_of_getElem? (i := 1333) (by decide +kernel)⟩
def lw_privs_4 : List (MethodName × Nat) := [(⟨"LandBaseModel", "lay", "(J)V"⟩, 58), (⟨"LandBaseModel", "next", "()V"⟩, 58), (⟨"LandBaseModel", "byteAt", "(I)I"⟩, 58), (⟨"LandBaseModel", "readNumber", "(Z)V"⟩, 58), (⟨"LandBaseModel", "statement", "()V"⟩, 58), (⟨"LandBaseModel", "isWord", "(Ljava/lang/String;)Z"⟩, 58), (⟨"LandBaseModel", "readInts", "(I)V"⟩, 58), (⟨"LandBaseModel", "readInt", "()I"⟩, 58), (⟨"LandBaseModel", "refuse", "()V"⟩, 58), (⟨"LandBaseModel", "readShape", "()V"⟩, 58), (⟨"LandBaseModel", "expect", "(I)V"⟩, 58), (⟨"LandBaseModel", "isSign", "(I)Z"⟩, 58), (⟨"LandBaseModel", "readPlace", "()V"⟩, 58), (⟨"LandBaseModel", "readPlaceRow", "()V"⟩, 58), (⟨"LandBaseModel", "add", "(I)V"⟩, 58), (⟨"LandBaseModel", "put", "(I)V"⟩, 58)]
theorem lw_r4 : ∀ q ∈ lw_privs_4, lw_okq q := List.forall_mem_cons.mpr ⟨lw_p48, List.forall_mem_cons.mpr ⟨lw_p49, List.forall_mem_cons.mpr ⟨lw_p50, List.forall_mem_cons.mpr ⟨lw_p51, List.forall_mem_cons.mpr ⟨lw_p52, List.forall_mem_cons.mpr ⟨lw_p53, List.forall_mem_cons.mpr ⟨lw_p54, List.forall_mem_cons.mpr ⟨lw_p55, List.forall_mem_cons.mpr ⟨lw_p56, List.forall_mem_cons.mpr ⟨lw_p57, List.forall_mem_cons.mpr ⟨lw_p58, List.forall_mem_cons.mpr ⟨lw_p59, List.forall_mem_cons.mpr ⟨lw_p60, List.forall_mem_cons.mpr ⟨lw_p61, List.forall_mem_cons.mpr ⟨lw_p62, List.forall_mem_cons.mpr ⟨lw_p63, fun _ h => absurd h List.not_mem_nil⟩⟩⟩⟩⟩⟩⟩⟩⟩⟩⟩⟩⟩⟩⟩⟩
theorem lw_p64 : lw_okq (⟨"LandBaseModel", "isTooGreat", "()Z"⟩, 58) := ⟨⟨by decide +kernel, by decide +kernel⟩, List.mem_of_getElem? (i := 981) (by decide +kernel), List.mem_of_getElem? (i := 1340) (by decide +kernel), List.mem_of_getElem? (i := 1341) (by decide +kernel)⟩
theorem lw_p65 : lw_okq (⟨"LandBaseModel", "isValid", "(LLandBaseModel$Shape;)Z"⟩, 58) := ⟨⟨by decide +kernel, by decide +kernel⟩, List.mem_of_getElem? (i := 981) (by decide +kernel), List.mem_of_getElem? (i := 1344) (by decide +kernel), List.mem_of_getElem? (i := 1345) (by decide +kernel)⟩
theorem lw_p66 : lw_okq (⟨"LandBaseModel", "areRingsRight", "(LLandBaseModel$Shape;)Z"⟩, 58) := ⟨⟨by decide +kernel, by decide +kernel⟩, List.mem_of_getElem? (i := 981) (by decide +kernel), List.mem_of_getElem? (i := 1386) (by decide +kernel), List.mem_of_getElem? (i := 1387) (by decide +kernel)⟩
theorem lw_p67 : lw_okq (⟨"LandBaseModel", "goAlong", "(LLandBaseModel$Shape;LLandBaseModel$Shape;)V"⟩, 58) := ⟨⟨by decide +kernel, by decide +kernel⟩, List.mem_of_getElem? (i := 981) (by decide +kernel), List.mem_of_getElem? (i := 1393) (by decide +kernel), List.mem_of_getElem? (i := 1394) (by decide +kernel)⟩
theorem lw_p68 : lw_okq (⟨"LandBaseModel", "cut", "(J)V"⟩, 58) := ⟨⟨by decide +kernel, by decide +kernel⟩, List.mem_of_getElem? (i := 981) (by decide +kernel), List.mem_of_getElem? (i := 1403) (by decide +kernel), List.mem_of_getElem? (i := 1404) (by decide +kernel)⟩
theorem lw_p69 : lw_okq (⟨"LandBaseModel", "meetWays", "(LLandBaseModel$Shape;ILLandBaseModel$Shape;I)V"⟩, 58) := ⟨⟨by decide +kernel, by decide +kernel⟩, List.mem_of_getElem? (i := 981) (by decide +kernel), List.mem_of_getElem? (i := 1407) (by decide +kernel), List.mem_of_getElem? (i := 1408) (by decide +kernel)⟩
theorem lw_p70 : lw_okq (⟨"LandBaseModel", "goPiece", "(LLandBaseModel$Shape;ILLandBaseModel$Shape;JJ)V"⟩, 58) := ⟨⟨by decide +kernel, by decide +kernel⟩, List.mem_of_getElem? (i := 981) (by decide +kernel), List.mem_of_getElem? (i := 1411) (by decide +kernel), List.mem_of_getElem? (i := 1412) (by decide +kernel)⟩
theorem lw_p71 : lw_okq (⟨"LandBaseModel", "lookRound", "(LLandBaseModel$Shape;ILLandBaseModel$Shape;JJ)V"⟩, 58) := ⟨⟨by decide +kernel, by decide +kernel⟩, List.mem_of_getElem? (i := 981) (by decide +kernel), List.mem_of_getElem? (i := 1415) (by decide +kernel), List.mem_of_getElem? (i := 1416) (by decide +kernel)⟩
theorem lw_p72 : lw_okq (⟨"LandBaseModel", "compare", "(JJJJ)I"⟩, 58) := ⟨⟨by decide +kernel, by decide +kernel⟩, List.mem_of_getElem? (i := 981) (by decide +kernel), List.mem_of_getElem? (i := 1420) (by decide +kernel), List.mem_of_getElem? (i := 1421) (by decide +kernel)⟩
theorem lw_p73 : lw_okq (⟨"LandBaseModel", "begins", "(JJZJJ)V"⟩, 58) := ⟨⟨by decide +kernel, by decide +kernel⟩, List.mem_of_getElem? (i := 981) (by decide +kernel), List.mem_of_getElem? (i := 1438) (by decide +kernel), List.mem_of_getElem? (i := 1439) (by decide +kernel)⟩
theorem lw_p74 : lw_okq (⟨"LandBaseModel", "isOnePiece", "(LLandBaseModel$Shape;)Z"⟩, 58) := ⟨⟨by decide +kernel, by decide +kernel⟩, List.mem_of_getElem? (i := 981) (by decide +kernel), List.mem_of_getElem? (i := 1453) (by decide +kernel), List.mem_of_getElem? (i := 1454) (by decide +kernel)⟩
theorem lw_p75 : lw_okq (⟨"LandBaseModel", "join", "(III)V"⟩, 58) := ⟨⟨by decide +kernel, by decide +kernel⟩, List.mem_of_getElem? (i := 981) (by decide +kernel), List.mem_of_getElem? (i := 1460) (by decide +kernel), List.mem_of_getElem? (i := 1461) (by decide +kernel)⟩
theorem lw_p76 : lw_okq (⟨"LandBaseModel", "hasRoom", "(I)Z"⟩, 58) := ⟨⟨by decide +kernel, by decide +kernel⟩, List.mem_of_getElem? (i := 981) (by decide +kernel), List.mem_of_getElem? (i := 1464) (by decide +kernel), List.mem_of_getElem? (i := 1465) (by decide +kernel)⟩
theorem lw_p77 : lw_okq (⟨"LandBaseModel", "changed", "(I)V"⟩, 58) := ⟨⟨by decide +kernel, by decide +kernel⟩, List.mem_of_getElem? (i := 981) (by decide +kernel), List.mem_of_getElem? (i := 1476) (by decide +kernel), List.mem_of_getElem? (i := 1477) (by decide +kernel)⟩
theorem lw_p78 : lw_okq (⟨"LandBaseModel", "isCommitted", "()Z"⟩, 58) := ⟨⟨by decide +kernel, by decide +kernel⟩, List.mem_of_getElem? (i := 981) (by decide +kernel), List.mem_of_getElem? (i := 1480) (by decide +kernel), List.mem_of_getElem? (i := 1481) (by decide +kernel)⟩
theorem lw_p79 : lw_okq (⟨"LandBaseModel", "isSaved", "()Z"⟩, 58) := ⟨⟨by decide +kernel, by decide +kernel⟩, List.mem_of_getElem? (i := 981) (by decide +kernel), List.mem_of_getElem? (i := 1484) (by decide +kernel), List.mem_of_getElem? (i := 1485) (by decide +kernel)⟩
def lw_privs_5 : List (MethodName × Nat) := [(⟨"LandBaseModel", "isTooGreat", "()Z"⟩, 58), (⟨"LandBaseModel", "isValid", "(LLandBaseModel$Shape;)Z"⟩, 58), (⟨"LandBaseModel", "areRingsRight", "(LLandBaseModel$Shape;)Z"⟩, 58), (⟨"LandBaseModel", "goAlong", "(LLandBaseModel$Shape;LLandBaseModel$Shape;)V"⟩, 58), (⟨"LandBaseModel", "cut", "(J)V"⟩, 58), (⟨"LandBaseModel", "meetWays", "(LLandBaseModel$Shape;ILLandBaseModel$Shape;I)V"⟩, 58), (⟨"LandBaseModel", "goPiece", "(LLandBaseModel$Shape;ILLandBaseModel$Shape;JJ)V"⟩, 58), (⟨"LandBaseModel", "lookRound", "(LLandBaseModel$Shape;ILLandBaseModel$Shape;JJ)V"⟩, 58), (⟨"LandBaseModel", "compare", "(JJJJ)I"⟩, 58), (⟨"LandBaseModel", "begins", "(JJZJJ)V"⟩, 58), (⟨"LandBaseModel", "isOnePiece", "(LLandBaseModel$Shape;)Z"⟩, 58), (⟨"LandBaseModel", "join", "(III)V"⟩, 58), (⟨"LandBaseModel", "hasRoom", "(I)Z"⟩, 58), (⟨"LandBaseModel", "changed", "(I)V"⟩, 58), (⟨"LandBaseModel", "isCommitted", "()Z"⟩, 58), (⟨"LandBaseModel", "isSaved", "()Z"⟩, 58)]
theorem lw_r5 : ∀ q ∈ lw_privs_5, lw_okq q := List.forall_mem_cons.mpr ⟨lw_p64, List.forall_mem_cons.mpr ⟨lw_p65, List.forall_mem_cons.mpr ⟨lw_p66, List.forall_mem_cons.mpr ⟨lw_p67, List.forall_mem_cons.mpr ⟨lw_p68, List.forall_mem_cons.mpr ⟨lw_p69, List.forall_mem_cons.mpr ⟨lw_p70, List.forall_mem_cons.mpr ⟨lw_p71, List.forall_mem_cons.mpr ⟨lw_p72, List.forall_mem_cons.mpr ⟨lw_p73, List.forall_mem_cons.mpr ⟨lw_p74, List.forall_mem_cons.mpr ⟨lw_p75, List.forall_mem_cons.mpr ⟨lw_p76, List.forall_mem_cons.mpr ⟨lw_p77, List.forall_mem_cons.mpr ⟨lw_p78, List.forall_mem_cons.mpr ⟨lw_p79, fun _ h => absurd h List.not_mem_nil⟩⟩⟩⟩⟩⟩⟩⟩⟩⟩⟩⟩⟩⟩⟩⟩
theorem lw_p80 : lw_okq (⟨"LandBaseModel", "fall", "()V"⟩, 58) := ⟨⟨by decide +kernel, by decide +kernel⟩, List.mem_of_getElem? (i := 981) (by decide +kernel), List.mem_of_getElem? (i := 1488) (by decide +kernel), List.mem_of_getElem? (i := 1489) (by decide +kernel)⟩
theorem lw_p81 : lw_okq (⟨"LandBaseModel", "isBlockWritten", "()Z"⟩, 58) := ⟨⟨by decide +kernel, by decide +kernel⟩, List.mem_of_getElem? (i := 981) (by decide +kernel), List.mem_of_getElem? (i := 1492) (by decide +kernel), List.mem_of_getElem? (i := 1493) (by decide +kernel)⟩
theorem lw_p82 : lw_okq (⟨"LandBaseModel", "drop", "(I)V"⟩, 58) := ⟨⟨by decide +kernel, by decide +kernel⟩, List.mem_of_getElem? (i := 981) (by decide +kernel), List.mem_of_getElem? (i := 1501) (by decide +kernel), List.mem_of_getElem? (i := 1502) (by decide +kernel)⟩
theorem lw_p83 : lw_okq (⟨"LandBaseModel", "move", "(III)V"⟩, 58) := ⟨⟨by decide +kernel, by decide +kernel⟩, List.mem_of_getElem? (i := 981) (by decide +kernel), List.mem_of_getElem? (i := 1510) (by decide +kernel), List.mem_of_getElem? (i := 1511) (by decide +kernel)⟩
theorem lw_p84 : lw_okq (⟨"LandBaseModel", "readFill", "()V"⟩, 58) := ⟨⟨by decide +kernel, by decide +kernel⟩, List.mem_of_getElem? (i := 981) (by decide +kernel), List.mem_of_getElem? (i := 1519) (by decide +kernel), List.mem_of_getElem? (i := 1520) (by decide +kernel)⟩
theorem lw_p85 : lw_okq (⟨"LandBaseModel", "fill", "(IIIIIII)V"⟩, 58) := ⟨⟨by decide +kernel, by decide +kernel⟩, List.mem_of_getElem? (i := 981) (by decide +kernel), List.mem_of_getElem? (i := 1526) (by decide +kernel), List.mem_of_getElem? (i := 1527) (by decide +kernel)⟩
theorem lw_p86 : lw_okq (⟨"LandBaseModel", "made", "(IIII)V"⟩, 58) := ⟨⟨by decide +kernel, by decide +kernel⟩, List.mem_of_getElem? (i := 981) (by decide +kernel), List.mem_of_getElem? (i := 1532) (by decide +kernel), List.mem_of_getElem? (i := 1533) (by decide +kernel)⟩
theorem lw_p87 : lw_okq (⟨"LandBaseModel", "draw", "(I)I"⟩, 58) := ⟨⟨by decide +kernel, by decide +kernel⟩, List.mem_of_getElem? (i := 981) (by decide +kernel), List.mem_of_getElem? (i := 1536) (by decide +kernel), List.mem_of_getElem? (i := 1537) (by decide +kernel)⟩
theorem lw_p88 : lw_okq (⟨"LandBaseModel", "relationHere", "()I"⟩, 58) := ⟨⟨by decide +kernel, by decide +kernel⟩, List.mem_of_getElem? (i := 981) (by decide +kernel), List.mem_of_getElem? (i := 1542) (by decide +kernel), List.mem_of_getElem? (i := 1543) (by decide +kernel)⟩
theorem lw_p89 : lw_okq (⟨"LandBaseModel", "find", "(I)V"⟩, 58) := ⟨⟨by decide +kernel, by decide +kernel⟩, List.mem_of_getElem? (i := 981) (by decide +kernel), List.mem_of_getElem? (i := 1551) (by decide +kernel), List.mem_of_getElem? (i := 1552) (by decide +kernel)⟩
theorem lw_p90 : lw_okq (⟨"LandBaseModel", "beginAnswers", "()V"⟩, 58) := ⟨⟨by decide +kernel, by decide +kernel⟩, List.mem_of_getElem? (i := 981) (by decide +kernel), List.mem_of_getElem? (i := 1555) (by decide +kernel), List.mem_of_getElem? (i := 1556) (by decide +kernel)⟩
theorem lw_p91 : lw_okq (⟨"LandBaseModel", "relates", "(ILLandBaseModel$Shape;LLandBaseModel$Shape;)Z"⟩, 58) := ⟨⟨by decide +kernel, by decide +kernel⟩, List.mem_of_getElem? (i := 981) (by decide +kernel), List.mem_of_getElem? (i := 1559) (by decide +kernel), List.mem_of_getElem? (i := 1560) (by decide +kernel)⟩
theorem lw_p92 : lw_okq (⟨"LandBaseModel", "overlap", "(LLandBaseModel$Shape;LLandBaseModel$Shape;)Z"⟩, 58) := ⟨⟨by decide +kernel, by decide +kernel⟩, List.mem_of_getElem? (i := 981) (by decide +kernel), List.mem_of_getElem? (i := 1572) (by decide +kernel), List.mem_of_getElem? (i := 1573) (by decide +kernel)⟩
theorem lw_p93 : lw_okq (⟨"LandBaseModel", "crossInside", "(LLandBaseModel$Shape;LLandBaseModel$Shape;)Z"⟩, 58) := ⟨⟨by decide +kernel, by decide +kernel⟩, List.mem_of_getElem? (i := 981) (by decide +kernel), List.mem_of_getElem? (i := 1576) (by decide +kernel), List.mem_of_getElem? (i := 1577) (by decide +kernel)⟩
theorem lw_p94 : lw_okq (⟨"LandBaseModel", "isWithin", "(LLandBaseModel$Shape;LLandBaseModel$Shape;)Z"⟩, 58) := ⟨⟨by decide +kernel, by decide +kernel⟩, List.mem_of_getElem? (i := 981) (by decide +kernel), List.mem_of_getElem? (i := 1586) (by decide +kernel), List.mem_of_getElem? (i := 1587) (by decide +kernel)⟩
theorem lw_p95 : lw_okq (⟨"LandBaseModel", "answer", "(I)V"⟩, 58) := ⟨⟨by decide +kernel, by decide +kernel⟩, List.mem_of_getElem? (i := 981) (by decide +kernel), List.mem_of_getElem? (i := 1590) (by decide +kernel), List.mem_of_getElem? (i := 1591) (by decide +kernel)⟩
def lw_privs_6 : List (MethodName × Nat) := [(⟨"LandBaseModel", "fall", "()V"⟩, 58), (⟨"LandBaseModel", "isBlockWritten", "()Z"⟩, 58), (⟨"LandBaseModel", "drop", "(I)V"⟩, 58), (⟨"LandBaseModel", "move", "(III)V"⟩, 58), (⟨"LandBaseModel", "readFill", "()V"⟩, 58), (⟨"LandBaseModel", "fill", "(IIIIIII)V"⟩, 58), (⟨"LandBaseModel", "made", "(IIII)V"⟩, 58), (⟨"LandBaseModel", "draw", "(I)I"⟩, 58), (⟨"LandBaseModel", "relationHere", "()I"⟩, 58), (⟨"LandBaseModel", "find", "(I)V"⟩, 58), (⟨"LandBaseModel", "beginAnswers", "()V"⟩, 58), (⟨"LandBaseModel", "relates", "(ILLandBaseModel$Shape;LLandBaseModel$Shape;)Z"⟩, 58), (⟨"LandBaseModel", "overlap", "(LLandBaseModel$Shape;LLandBaseModel$Shape;)Z"⟩, 58), (⟨"LandBaseModel", "crossInside", "(LLandBaseModel$Shape;LLandBaseModel$Shape;)Z"⟩, 58), (⟨"LandBaseModel", "isWithin", "(LLandBaseModel$Shape;LLandBaseModel$Shape;)Z"⟩, 58), (⟨"LandBaseModel", "answer", "(I)V"⟩, 58)]
theorem lw_r6 : ∀ q ∈ lw_privs_6, lw_okq q := List.forall_mem_cons.mpr ⟨lw_p80, List.forall_mem_cons.mpr ⟨lw_p81, List.forall_mem_cons.mpr ⟨lw_p82, List.forall_mem_cons.mpr ⟨lw_p83, List.forall_mem_cons.mpr ⟨lw_p84, List.forall_mem_cons.mpr ⟨lw_p85, List.forall_mem_cons.mpr ⟨lw_p86, List.forall_mem_cons.mpr ⟨lw_p87, List.forall_mem_cons.mpr ⟨lw_p88, List.forall_mem_cons.mpr ⟨lw_p89, List.forall_mem_cons.mpr ⟨lw_p90, List.forall_mem_cons.mpr ⟨lw_p91, List.forall_mem_cons.mpr ⟨lw_p92, List.forall_mem_cons.mpr ⟨lw_p93, List.forall_mem_cons.mpr ⟨lw_p94, List.forall_mem_cons.mpr ⟨lw_p95, fun _ h => absurd h List.not_mem_nil⟩⟩⟩⟩⟩⟩⟩⟩⟩⟩⟩⟩⟩⟩⟩⟩
theorem lw_p96 : lw_okq (⟨"LandBaseModel", "endAnswers", "(I)V"⟩, 58) := ⟨⟨by decide +kernel, by decide +kernel⟩, List.mem_of_getElem? (i := 981) (by decide +kernel), List.mem_of_getElem? (i := 1594) (by decide +kernel), List.mem_of_getElem? (i := 1595) (by decide +kernel)⟩
theorem lw_p97 : lw_okq (⟨"LandBaseModel", "windowOf", "(IIII)V"⟩, 58) := ⟨⟨by decide +kernel, by decide +kernel⟩, List.mem_of_getElem? (i := 981) (by decide +kernel), List.mem_of_getElem? (i := 1599) (by decide +kernel), List.mem_of_getElem? (i := 1600) (by decide +kernel)⟩
theorem lw_p98 : lw_okq (⟨"LandBaseModel", "near", "(III)V"⟩, 58) := ⟨⟨by decide +kernel, by decide +kernel⟩, List.mem_of_getElem? (i := 981) (by decide +kernel), List.mem_of_getElem? (i := 1604) (by decide +kernel), List.mem_of_getElem? (i := 1605) (by decide +kernel)⟩
theorem lw_p99 : lw_okq (⟨"LandBaseModel", "distance", "(LLandBaseModel$Shape;IILLandBaseModel$Distance;)V"⟩, 58) := ⟨⟨by decide +kernel, by decide +kernel⟩, List.mem_of_getElem? (i := 981) (by decide +kernel), List.mem_of_getElem? (i := 1608) (by decide +kernel), List.mem_of_getElem? (i := 1609) (by decide +kernel)⟩
theorem lw_p100 : lw_okq (⟨"LandBaseModel", "hereIs", "(JJ)V"⟩, 58) := ⟨⟨by decide +kernel, by decide +kernel⟩, List.mem_of_getElem? (i := 981) (by decide +kernel), List.mem_of_getElem? (i := 1612) (by decide +kernel), List.mem_of_getElem? (i := 1613) (by decide +kernel)⟩
theorem lw_p101 : lw_okq (⟨"LandBaseModel", "fromPoint", "(JJ)V"⟩, 58) := ⟨⟨by decide +kernel, by decide +kernel⟩, List.mem_of_getElem? (i := 981) (by decide +kernel), List.mem_of_getElem? (i := 1623) (by decide +kernel), List.mem_of_getElem? (i := 1624) (by decide +kernel)⟩
theorem lw_p102 : lw_okq (⟨"LandBaseModel", "fromWay", "(LLandBaseModel$Shape;III)V"⟩, 58) := ⟨⟨by decide +kernel, by decide +kernel⟩, List.mem_of_getElem? (i := 981) (by decide +kernel), List.mem_of_getElem? (i := 1627) (by decide +kernel), List.mem_of_getElem? (i := 1628) (by decide +kernel)⟩
theorem lw_p103 : lw_okq (⟨"LandBaseModel", "compare", "(LLandBaseModel$Distance;LLandBaseModel$Distance;)I"⟩, 58) := ⟨⟨by decide +kernel, by decide +kernel⟩, List.mem_of_getElem? (i := 981) (by decide +kernel), List.mem_of_getElem? (i := 1631) (by decide +kernel), List.mem_of_getElem? (i := 1632) (by decide +kernel)⟩
theorem lw_p104 : lw_okq (⟨"LandBaseModel", "joinOf", "(IIIII)V"⟩, 58) := ⟨⟨by decide +kernel, by decide +kernel⟩, List.mem_of_getElem? (i := 981) (by decide +kernel), List.mem_of_getElem? (i := 1636) (by decide +kernel), List.mem_of_getElem? (i := 1637) (by decide +kernel)⟩
theorem lw_p105 : lw_okq (⟨"LandBaseModel", "readPlain", "()V"⟩, 58) := ⟨⟨by decide +kernel, by decide +kernel⟩, List.mem_of_getElem? (i := 981) (by decide +kernel), List.mem_of_getElem? (i := 1641) (by decide +kernel), List.mem_of_getElem? (i := 1642) (by decide +kernel)⟩
theorem lw_p106 : lw_okq (⟨"LandBaseModel", "standing", "(I)I"⟩, 58) := ⟨⟨by decide +kernel, by decide +kernel⟩, List.mem_of_getElem? (i := 981) (by decide +kernel), List.mem_of_getElem? (i := 1690) (by decide +kernel), List.mem_of_getElem? (i := 1691) (by decide +kernel)⟩
def lw_privs_7 : List (MethodName × Nat) := [(⟨"LandBaseModel", "endAnswers", "(I)V"⟩, 58), (⟨"LandBaseModel", "windowOf", "(IIII)V"⟩, 58), (⟨"LandBaseModel", "near", "(III)V"⟩, 58), (⟨"LandBaseModel", "distance", "(LLandBaseModel$Shape;IILLandBaseModel$Distance;)V"⟩, 58), (⟨"LandBaseModel", "hereIs", "(JJ)V"⟩, 58), (⟨"LandBaseModel", "fromPoint", "(JJ)V"⟩, 58), (⟨"LandBaseModel", "fromWay", "(LLandBaseModel$Shape;III)V"⟩, 58), (⟨"LandBaseModel", "compare", "(LLandBaseModel$Distance;LLandBaseModel$Distance;)I"⟩, 58), (⟨"LandBaseModel", "joinOf", "(IIIII)V"⟩, 58), (⟨"LandBaseModel", "readPlain", "()V"⟩, 58), (⟨"LandBaseModel", "standing", "(I)I"⟩, 58)]
theorem lw_r7 : ∀ q ∈ lw_privs_7, lw_okq q := List.forall_mem_cons.mpr ⟨lw_p96, List.forall_mem_cons.mpr ⟨lw_p97, List.forall_mem_cons.mpr ⟨lw_p98, List.forall_mem_cons.mpr ⟨lw_p99, List.forall_mem_cons.mpr ⟨lw_p100, List.forall_mem_cons.mpr ⟨lw_p101, List.forall_mem_cons.mpr ⟨lw_p102, List.forall_mem_cons.mpr ⟨lw_p103, List.forall_mem_cons.mpr ⟨lw_p104, List.forall_mem_cons.mpr ⟨lw_p105, List.forall_mem_cons.mpr ⟨lw_p106, fun _ h => absurd h List.not_mem_nil⟩⟩⟩⟩⟩⟩⟩⟩⟩⟩⟩
def lw_privs : List (MethodName × Nat) := lw_privs_1 ++ (lw_privs_2 ++ (lw_privs_3 ++ (lw_privs_4 ++ (lw_privs_5 ++ (lw_privs_6 ++ (lw_privs_7))))))
def lw_tbl : List Cond := k2_sels lw_privs ++ tables_1
theorem lw_privs_ok : ∀ q ∈ lw_privs, lw_okq q := by
  show ∀ q ∈ lw_privs_1 ++ (lw_privs_2 ++ (lw_privs_3 ++ (lw_privs_4 ++ (lw_privs_5 ++ (lw_privs_6 ++ (lw_privs_7)))))), lw_okq q
  exact List.forall_mem_append.mpr ⟨lw_r1, List.forall_mem_append.mpr ⟨lw_r2, List.forall_mem_append.mpr ⟨lw_r3, List.forall_mem_append.mpr ⟨lw_r4, List.forall_mem_append.mpr ⟨lw_r5, List.forall_mem_append.mpr ⟨lw_r6, lw_r7⟩⟩⟩⟩⟩⟩
end
section
def RX0 : String := "LandBase$Checker"
def TX0 : u_T := fun k => match k with
  | 0 => ("LandBase$Checker", "cutter", "LLandBase$Cutter;", true)
  | _ => ("LandBase$Checker", "group", "[I", true)
def tyX0 : Nat → FieldType := fun k => match k with
  | 0 => .object "LandBase$Cutter"
  | _ => .array .int
theorem nmX0 : ∀ a, a < 2 → ∀ b, b < 2 → a ≠ b → (TX0 a).2.1 ≠ (TX0 b).2.1 := by decide +kernel
theorem tyX0_ok : ∀ k, k < 2 → parseFieldDescriptor (TX0 k).2.2.1 = some (tyX0 k) := by decide +kernel
def yX0_init : MethodName := ⟨RX0, "<init>", "(LLandBase$Cutter;)V"⟩
def yX0_isValid : MethodName := ⟨RX0, "isValid", "(LLandBase$Shape;)Z"⟩
def yX0_hasPauses : MethodName := ⟨RX0, "hasPauses", "(LLandBase$Shape;II)Z"⟩
def yX0_isRing : MethodName := ⟨RX0, "isRing", "(LLandBase$Shape;II)Z"⟩
def yX0_doHolesFit : MethodName := ⟨RX0, "doHolesFit", "(LLandBase$Shape;)Z"⟩
def yX0_isOnePiece : MethodName := ⟨RX0, "isOnePiece", "(LLandBase$Shape;)Z"⟩
def yX0_isSeenBefore : MethodName := ⟨RX0, "isSeenBefore", "(LLandBase$Shape;I)Z"⟩
def yX0_closesCircle : MethodName := ⟨RX0, "closesCircle", "(LLandBase$Shape;I)Z"⟩
def yX0_isOnRing : MethodName := ⟨RX0, "isOnRing", "(LLandBase$Shape;III)Z"⟩
def yX0_joinGroups : MethodName := ⟨RX0, "joinGroups", "(II)V"⟩
def RX1 : String := "LandBase$Cutter"
def TX1 : u_T := fun k => match k with
  | 0 => ("LandBase$Cutter", "region", "LLandBase$Shape;", false)
  | 1 => ("LandBase$Cutter", "from", "I", false)
  | 2 => ("LandBase$Cutter", "stop", "I", false)
  | 3 => ("LandBase$Cutter", "minX", "I", false)
  | 4 => ("LandBase$Cutter", "minY", "I", false)
  | 5 => ("LandBase$Cutter", "maxX", "I", false)
  | 6 => ("LandBase$Cutter", "maxY", "I", false)
  | 7 => ("LandBase$Cutter", "over", "[J", true)
  | 8 => ("LandBase$Cutter", "under", "[J", true)
  | 9 => ("LandBase$Cutter", "turn", "[I", true)
  | 10 => ("LandBase$Cutter", "cuts", "I", false)
  | 11 => ("LandBase$Cutter", "odd", "Z", false)
  | 12 => ("LandBase$Cutter", "covers", "I", false)
  | _ => ("LandBase$Cutter", "touched", "Z", false)
def tyX1 : Nat → FieldType := fun k => match k with
  | 0 => .object "LandBase$Shape"
  | 1 => .int
  | 2 => .int
  | 3 => .int
  | 4 => .int
  | 5 => .int
  | 6 => .int
  | 7 => .array .long
  | 8 => .array .long
  | 9 => .array .int
  | 10 => .int
  | 11 => .boolean
  | 12 => .int
  | _ => .boolean
theorem nmX1 : ∀ a, a < 14 → ∀ b, b < 14 → a ≠ b → (TX1 a).2.1 ≠ (TX1 b).2.1 := by decide +kernel
theorem tyX1_ok : ∀ k, k < 14 → parseFieldDescriptor (TX1 k).2.2.1 = some (tyX1 k) := by decide +kernel
def yX1_init : MethodName := ⟨RX1, "<init>", "()V"⟩
def yX1_aim : MethodName := ⟨RX1, "aim", "(LLandBase$Shape;II)V"⟩
def yX1_scan : MethodName := ⟨RX1, "scan", "(LLandBase$Shape;III)I"⟩
def yX1_isWayApart : MethodName := ⟨RX1, "isWayApart", "(LLandBase$Shape;I)Z"⟩
def yX1_gather : MethodName := ⟨RX1, "gather", "(LLandBase$Shape;I)V"⟩
def yX1_cross : MethodName := ⟨RX1, "cross", "(LLandBase$Shape;IIJ)V"⟩
def yX1_goAlong : MethodName := ⟨RX1, "goAlong", "(LLandBase$Shape;II)V"⟩
def yX1_noteCut : MethodName := ⟨RX1, "noteCut", "(JJI)V"⟩
def yX1_sortCuts : MethodName := ⟨RX1, "sortCuts", "()V"⟩
def yX1_sweep : MethodName := ⟨RX1, "sweep", "()I"⟩
def yX1_lieOfPiece : MethodName := ⟨RX1, "lieOfPiece", "()I"⟩
def RX2 : String := "LandBase$Distance"
def TX2 : u_T := fun k => match k with
  | 0 => ("LandBase$Distance", "upper", "J", false)
  | 1 => ("LandBase$Distance", "lower", "J", false)
  | _ => ("LandBase$Distance", "under", "J", false)
def tyX2 : Nat → FieldType := fun k => match k with
  | 0 => .long
  | 1 => .long
  | _ => .long
theorem nmX2 : ∀ a, a < 3 → ∀ b, b < 3 → a ≠ b → (TX2 a).2.1 ≠ (TX2 b).2.1 := by decide +kernel
theorem tyX2_ok : ∀ k, k < 3 → parseFieldDescriptor (TX2 k).2.2.1 = some (tyX2 k) := by decide +kernel
def yX2_init : MethodName := ⟨RX2, "<init>", "()V"⟩
def yX2_measure : MethodName := ⟨RX2, "measure", "(LLandBase$Shape;II)V"⟩
def yX2_measureFoot : MethodName := ⟨RX2, "measureFoot", "(LLandBase$Shape;IJJ)V"⟩
def yX2_keep : MethodName := ⟨RX2, "keep", "(JJJ)V"⟩
def yX2_compareWith : MethodName := ⟨RX2, "compareWith", "(LLandBase$Distance;)I"⟩
def yX2_compareParts : MethodName := ⟨RX2, "compareParts", "(JJJ)I"⟩
def RX3 : String := "LandBase$Keeper"
def TX3 : u_T := fun k => match k with
  | 0 => ("LandBase$Keeper", "current", "LLandBase$Table;", true)
  | 1 => ("LandBase$Keeper", "committed", "LLandBase$Table;", true)
  | 2 => ("LandBase$Keeper", "pool", "[LLandBase$Shape;", true)
  | 3 => ("LandBase$Keeper", "pooled", "I", false)
  | 4 => ("LandBase$Keeper", "lastGiven", "I", false)
  | 5 => ("LandBase$Keeper", "open", "Z", false)
  | 6 => ("LandBase$Keeper", "down", "Z", false)
  | 7 => ("LandBase$Keeper", "bytes", "I", false)
  | 8 => ("LandBase$Keeper", "blocks", "I", false)
  | 9 => ("LandBase$Keeper", "saveCount", "I", false)
  | 10 => ("LandBase$Keeper", "crashKind", "I", false)
  | _ => ("LandBase$Keeper", "crashLeft", "I", false)
def tyX3 : Nat → FieldType := fun k => match k with
  | 0 => .object "LandBase$Table"
  | 1 => .object "LandBase$Table"
  | 2 => .array (.object "LandBase$Shape")
  | 3 => .int
  | 4 => .int
  | 5 => .boolean
  | 6 => .boolean
  | 7 => .int
  | 8 => .int
  | 9 => .int
  | 10 => .int
  | _ => .int
theorem nmX3 : ∀ a, a < 12 → ∀ b, b < 12 → a ≠ b → (TX3 a).2.1 ≠ (TX3 b).2.1 := by decide +kernel
theorem tyX3_ok : ∀ k, k < 12 → parseFieldDescriptor (TX3 k).2.2.1 = some (tyX3 k) := by decide +kernel
def yX3_init : MethodName := ⟨RX3, "<init>", "()V"⟩
def yX3_freshShape : MethodName := ⟨RX3, "freshShape", "()LLandBase$Shape;"⟩
def yX3_hasRoom : MethodName := ⟨RX3, "hasRoom", "(I)Z"⟩
def yX3_settle : MethodName := ⟨RX3, "settle", "(I)I"⟩
def yX3_turn : MethodName := ⟨RX3, "turn", "(I)I"⟩
def yX3_begin : MethodName := ⟨RX3, "begin", "()I"⟩
def yX3_commit : MethodName := ⟨RX3, "commit", "()I"⟩
def yX3_abort : MethodName := ⟨RX3, "abort", "()I"⟩
def yX3_writeLog : MethodName := ⟨RX3, "writeLog", "(I)I"⟩
def yX3_save : MethodName := ⟨RX3, "save", "()I"⟩
def yX3_restore : MethodName := ⟨RX3, "restore", "()V"⟩
def yX3_countFlaws : MethodName := ⟨RX3, "countFlaws", "()I"⟩
def RX4 : String := "LandBase$Plane"
def TX4 : u_T := fun k => match k with
  | _ => ("", "", "", false)
def tyX4 : Nat → FieldType := fun k => match k with
  | _ => .int
theorem nmX4 : ∀ a, a < 0 → ∀ b, b < 0 → a ≠ b → (TX4 a).2.1 ≠ (TX4 b).2.1 := by decide +kernel
theorem tyX4_ok : ∀ k, k < 0 → parseFieldDescriptor (TX4 k).2.2.1 = some (tyX4 k) := by decide +kernel
def yX4_sideOf : MethodName := ⟨RX4, "sideOf", "(LLandBase$Shape;IJJ)J"⟩
def yX4_isInBoxOf : MethodName := ⟨RX4, "isInBoxOf", "(LLandBase$Shape;III)Z"⟩
def yX4_isOnWay : MethodName := ⟨RX4, "isOnWay", "(LLandBase$Shape;III)Z"⟩
def yX4_locate : MethodName := ⟨RX4, "locate", "(LLandBase$Shape;II)I"⟩
def yX4_locateOnLine : MethodName := ⟨RX4, "locateOnLine", "(LLandBase$Shape;II)I"⟩
def yX4_locateInPolygon : MethodName := ⟨RX4, "locateInPolygon", "(LLandBase$Shape;II)I"⟩
def yX4_countCommon : MethodName := ⟨RX4, "countCommon", "(LLandBase$Shape;ILLandBase$Shape;I)I"⟩
def yX4_areBoxesApart : MethodName := ⟨RX4, "areBoxesApart", "(LLandBase$Shape;ILLandBase$Shape;I)Z"⟩
def yX4_countOnLine : MethodName := ⟨RX4, "countOnLine", "(LLandBase$Shape;ILLandBase$Shape;I)I"⟩
def yX4_isInWindow : MethodName := ⟨RX4, "isInWindow", "(LLandBase$Shape;IIII)Z"⟩
def yX4_upperProduct : MethodName := ⟨RX4, "upperProduct", "(JJ)J"⟩
def yX4_compareBits : MethodName := ⟨RX4, "compareBits", "(JJ)I"⟩
def yX4_compareProducts : MethodName := ⟨RX4, "compareProducts", "(JJJJ)I"⟩
def RX5 : String := "LandBase$Reader"
def TX5 : u_T := fun k => match k with
  | 0 => ("LandBase$Reader", "numbers", "[I", true)
  | 1 => ("LandBase$Reader", "shape", "LLandBase$Shape;", true)
  | 2 => ("LandBase$Reader", "numberCount", "I", false)
  | 3 => ("LandBase$Reader", "verb", "I", false)
  | 4 => ("LandBase$Reader", "relation", "I", false)
  | _ => ("LandBase$Reader", "fillKind", "I", false)
def tyX5 : Nat → FieldType := fun k => match k with
  | 0 => .array .int
  | 1 => .object "LandBase$Shape"
  | 2 => .int
  | 3 => .int
  | 4 => .int
  | _ => .int
theorem nmX5 : ∀ a, a < 6 → ∀ b, b < 6 → a ≠ b → (TX5 a).2.1 ≠ (TX5 b).2.1 := by decide +kernel
theorem tyX5_ok : ∀ k, k < 6 → parseFieldDescriptor (TX5 k).2.2.1 = some (tyX5 k) := by decide +kernel
def yX5_init : MethodName := ⟨RX5, "<init>", "()V"⟩
def yX5_readStatement : MethodName := ⟨RX5, "readStatement", "(LLandBase$Tape;)Z"⟩
def yX5_readNumbers : MethodName := ⟨RX5, "readNumbers", "(LLandBase$Tape;I)Z"⟩
def yX5_readFillKind : MethodName := ⟨RX5, "readFillKind", "(LLandBase$Tape;)Z"⟩
def yX5_readRelation : MethodName := ⟨RX5, "readRelation", "(LLandBase$Tape;)Z"⟩
def yX5_readShape : MethodName := ⟨RX5, "readShape", "(LLandBase$Tape;)Z"⟩
def yX5_readRings : MethodName := ⟨RX5, "readRings", "(LLandBase$Tape;)Z"⟩
def yX5_readRing : MethodName := ⟨RX5, "readRing", "(LLandBase$Tape;I)Z"⟩
def yX5_readPlace : MethodName := ⟨RX5, "readPlace", "(LLandBase$Tape;)Z"⟩
def RX6 : String := "LandBase$Relations"
def TX6 : u_T := fun k => match k with
  | _ => ("LandBase$Relations", "cutter", "LLandBase$Cutter;", true)
def tyX6 : Nat → FieldType := fun k => match k with
  | _ => .object "LandBase$Cutter"
theorem nmX6 : ∀ a, a < 1 → ∀ b, b < 1 → a ≠ b → (TX6 a).2.1 ≠ (TX6 b).2.1 := by decide +kernel
theorem tyX6_ok : ∀ k, k < 1 → parseFieldDescriptor (TX6 k).2.2.1 = some (tyX6 k) := by decide +kernel
def yX6_init : MethodName := ⟨RX6, "<init>", "(LLandBase$Cutter;)V"⟩
def yX6_holds : MethodName := ⟨RX6, "holds", "(ILLandBase$Shape;LLandBase$Shape;)Z"⟩
def yX6_doMeet : MethodName := ⟨RX6, "doMeet", "(LLandBase$Shape;LLandBase$Shape;)Z"⟩
def yX6_doLinesMeet : MethodName := ⟨RX6, "doLinesMeet", "(LLandBase$Shape;LLandBase$Shape;)Z"⟩
def yX6_doInteriorsMeet : MethodName := ⟨RX6, "doInteriorsMeet", "(LLandBase$Shape;LLandBase$Shape;)Z"⟩
def yX6_areOnlyAlong : MethodName := ⟨RX6, "areOnlyAlong", "(II)Z"⟩
def yX6_doLineInteriorsMeet : MethodName := ⟨RX6, "doLineInteriorsMeet", "(LLandBase$Shape;LLandBase$Shape;)Z"⟩
def yX6_isAtTip : MethodName := ⟨RX6, "isAtTip", "(LLandBase$Shape;ILLandBase$Shape;LLandBase$Shape;I)Z"⟩
def yX6_isWithin : MethodName := ⟨RX6, "isWithin", "(LLandBase$Shape;LLandBase$Shape;)Z"⟩
def yX6_isLineWithin : MethodName := ⟨RX6, "isLineWithin", "(LLandBase$Shape;LLandBase$Shape;)Z"⟩
def yX6_isWayCovered : MethodName := ⟨RX6, "isWayCovered", "(LLandBase$Shape;ILLandBase$Shape;)Z"⟩
def RX7 : String := "LandBase$Shape"
def TX7 : u_T := fun k => match k with
  | 0 => ("LandBase$Shape", "kind", "I", false)
  | 1 => ("LandBase$Shape", "size", "I", false)
  | 2 => ("LandBase$Shape", "ringCount", "I", false)
  | 3 => ("LandBase$Shape", "tooLarge", "Z", false)
  | 4 => ("LandBase$Shape", "minX", "I", false)
  | 5 => ("LandBase$Shape", "minY", "I", false)
  | 6 => ("LandBase$Shape", "maxX", "I", false)
  | 7 => ("LandBase$Shape", "maxY", "I", false)
  | 8 => ("LandBase$Shape", "holders", "I", false)
  | 9 => ("LandBase$Shape", "x", "[I", true)
  | 10 => ("LandBase$Shape", "y", "[I", true)
  | 11 => ("LandBase$Shape", "ringStop", "[I", true)
  | _ => ("LandBase$Shape", "isLast", "[Z", true)
def tyX7 : Nat → FieldType := fun k => match k with
  | 0 => .int
  | 1 => .int
  | 2 => .int
  | 3 => .boolean
  | 4 => .int
  | 5 => .int
  | 6 => .int
  | 7 => .int
  | 8 => .int
  | 9 => .array .int
  | 10 => .array .int
  | 11 => .array .int
  | _ => .array .boolean
theorem nmX7 : ∀ a, a < 13 → ∀ b, b < 13 → a ≠ b → (TX7 a).2.1 ≠ (TX7 b).2.1 := by decide +kernel
theorem tyX7_ok : ∀ k, k < 13 → parseFieldDescriptor (TX7 k).2.2.1 = some (tyX7 k) := by decide +kernel
def yX7_init : MethodName := ⟨RX7, "<init>", "()V"⟩
def yX7_start : MethodName := ⟨RX7, "start", "(I)V"⟩
def yX7_addPlace : MethodName := ⟨RX7, "addPlace", "(II)V"⟩
def yX7_closeRing : MethodName := ⟨RX7, "closeRing", "()V"⟩
def yX7_finish : MethodName := ⟨RX7, "finish", "()V"⟩
def yX7_ringStart : MethodName := ⟨RX7, "ringStart", "(I)I"⟩
def yX7_isAlike : MethodName := ⟨RX7, "isAlike", "(II)Z"⟩
def yX7_canMove : MethodName := ⟨RX7, "canMove", "(JJ)Z"⟩
def yX7_isBoxApart : MethodName := ⟨RX7, "isBoxApart", "(LLandBase$Shape;)Z"⟩
def yX7_isBoxWithin : MethodName := ⟨RX7, "isBoxWithin", "(LLandBase$Shape;)Z"⟩
def yX7_copyMoved : MethodName := ⟨RX7, "copyMoved", "(LLandBase$Shape;II)V"⟩
def RX8 : String := "LandBase$Table"
def TX8 : u_T := fun k => match k with
  | 0 => ("LandBase$Table", "ids", "[I", true)
  | 1 => ("LandBase$Table", "shapes", "[LLandBase$Shape;", true)
  | _ => ("LandBase$Table", "count", "I", false)
def tyX8 : Nat → FieldType := fun k => match k with
  | 0 => .array .int
  | 1 => .array (.object "LandBase$Shape")
  | _ => .int
theorem nmX8 : ∀ a, a < 3 → ∀ b, b < 3 → a ≠ b → (TX8 a).2.1 ≠ (TX8 b).2.1 := by decide +kernel
theorem tyX8_ok : ∀ k, k < 3 → parseFieldDescriptor (TX8 k).2.2.1 = some (tyX8 k) := by decide +kernel
def yX8_init : MethodName := ⟨RX8, "<init>", "()V"⟩
def yX8_indexOf : MethodName := ⟨RX8, "indexOf", "(I)I"⟩
def yX8_shapeWith : MethodName := ⟨RX8, "shapeWith", "(I)LLandBase$Shape;"⟩
def yX8_insert : MethodName := ⟨RX8, "insert", "(ILLandBase$Shape;)V"⟩
def yX8_replace : MethodName := ⟨RX8, "replace", "(ILLandBase$Shape;)V"⟩
def yX8_removeAt : MethodName := ⟨RX8, "removeAt", "(I)V"⟩
def yX8_copyFrom : MethodName := ⟨RX8, "copyFrom", "(LLandBase$Table;)V"⟩
def yX8_countBadRows : MethodName := ⟨RX8, "countBadRows", "()I"⟩
def RX9 : String := "LandBase$Tape"
def TX9 : u_T := fun k => match k with
  | 0 => ("LandBase$Tape", "bytes", "[B", true)
  | 1 => ("LandBase$Tape", "size", "I", false)
  | 2 => ("LandBase$Tape", "tokenKind", "I", false)
  | 3 => ("LandBase$Tape", "tokenFirst", "I", false)
  | 4 => ("LandBase$Tape", "tokenNext", "I", false)
  | _ => ("LandBase$Tape", "tokenNumber", "I", false)
def tyX9 : Nat → FieldType := fun k => match k with
  | 0 => .array .byte
  | 1 => .int
  | 2 => .int
  | 3 => .int
  | 4 => .int
  | _ => .int
theorem nmX9 : ∀ a, a < 6 → ∀ b, b < 6 → a ≠ b → (TX9 a).2.1 ≠ (TX9 b).2.1 := by decide +kernel
theorem tyX9_ok : ∀ k, k < 6 → parseFieldDescriptor (TX9 k).2.2.1 = some (tyX9 k) := by decide +kernel
def yX9_init : MethodName := ⟨RX9, "<init>", "()V"⟩
def yX9_append : MethodName := ⟨RX9, "append", "(J)V"⟩
def yX9_clear : MethodName := ⟨RX9, "clear", "()V"⟩
def yX9_rewind : MethodName := ⟨RX9, "rewind", "()V"⟩
def yX9_advance : MethodName := ⟨RX9, "advance", "()V"⟩
def yX9_takeWord : MethodName := ⟨RX9, "takeWord", "()V"⟩
def yX9_takeNumber : MethodName := ⟨RX9, "takeNumber", "()V"⟩
def yX9_skipSign : MethodName := ⟨RX9, "skipSign", "(C)Z"⟩
def yX9_skipWord : MethodName := ⟨RX9, "skipWord", "(Ljava/lang/String;)I"⟩
def yX9_isToken : MethodName := ⟨RX9, "isToken", "(Ljava/lang/String;II)Z"⟩
def RX10 : String := "LandBase"
def TX10 : u_T := fun k => match k with
  | 0 => ("LandBase", "tape", "LLandBase$Tape;", true)
  | 1 => ("LandBase", "reader", "LLandBase$Reader;", true)
  | 2 => ("LandBase", "keeper", "LLandBase$Keeper;", true)
  | 3 => ("LandBase", "checker", "LLandBase$Checker;", true)
  | 4 => ("LandBase", "relations", "LLandBase$Relations;", true)
  | 5 => ("LandBase", "distances", "[LLandBase$Distance;", true)
  | 6 => ("LandBase", "order", "[I", true)
  | 7 => ("LandBase", "ints", "[I", true)
  | 8 => ("LandBase", "intCount", "I", false)
  | 9 => ("LandBase", "offered", "I", false)
  | _ => ("LandBase", "wrongAt", "I", false)
def tyX10 : Nat → FieldType := fun k => match k with
  | 0 => .object "LandBase$Tape"
  | 1 => .object "LandBase$Reader"
  | 2 => .object "LandBase$Keeper"
  | 3 => .object "LandBase$Checker"
  | 4 => .object "LandBase$Relations"
  | 5 => .array (.object "LandBase$Distance")
  | 6 => .array .int
  | 7 => .array .int
  | 8 => .int
  | 9 => .int
  | _ => .int
theorem nmX10 : ∀ a, a < 11 → ∀ b, b < 11 → a ≠ b → (TX10 a).2.1 ≠ (TX10 b).2.1 := by decide +kernel
theorem tyX10_ok : ∀ k, k < 11 → parseFieldDescriptor (TX10 k).2.2.1 = some (tyX10 k) := by decide +kernel
def yX10_init : MethodName := ⟨RX10, "<init>", "()V"⟩
def yX10_feed : MethodName := ⟨RX10, "feed", "(JJJJJ)I"⟩
def yX10_end : MethodName := ⟨RX10, "end", "(I)I"⟩
def yX10_run : MethodName := ⟨RX10, "run", "()I"⟩
def yX10_wrong : MethodName := ⟨RX10, "wrong", "()I"⟩
def yX10_outputs : MethodName := ⟨RX10, "outputs", "()I"⟩
def yX10_out : MethodName := ⟨RX10, "out", "(I)I"⟩
def yX10_crash : MethodName := ⟨RX10, "crash", "(III)Z"⟩
def yX10_recover : MethodName := ⟨RX10, "recover", "()I"⟩
def yX10_isDown : MethodName := ⟨RX10, "isDown", "()Z"⟩
def yX10_isOpen : MethodName := ⟨RX10, "isOpen", "()Z"⟩
def yX10_live : MethodName := ⟨RX10, "live", "()I"⟩
def yX10_idAt : MethodName := ⟨RX10, "idAt", "(I)I"⟩
def yX10_kindOf : MethodName := ⟨RX10, "kindOf", "(I)I"⟩
def yX10_places : MethodName := ⟨RX10, "places", "(I)I"⟩
def yX10_rings : MethodName := ⟨RX10, "rings", "(I)I"⟩
def yX10_at : MethodName := ⟨RX10, "at", "(III)I"⟩
def yX10_relate : MethodName := ⟨RX10, "relate", "(III)I"⟩
def yX10_nearer : MethodName := ⟨RX10, "nearer", "(IIII)I"⟩
def yX10_used : MethodName := ⟨RX10, "used", "()I"⟩
def yX10_saves : MethodName := ⟨RX10, "saves", "()I"⟩
def yX10_flaws : MethodName := ⟨RX10, "flaws", "()I"⟩
def yX10_isInPlane : MethodName := ⟨RX10, "isInPlane", "(J)Z"⟩
def yX10_shapeOf : MethodName := ⟨RX10, "shapeOf", "(I)LLandBase$Shape;"⟩
def yX10_putAnswer : MethodName := ⟨RX10, "putAnswer", "(I)V"⟩
def yX10_putInt : MethodName := ⟨RX10, "putInt", "(I)V"⟩
def yX10_offer : MethodName := ⟨RX10, "offer", "(I)V"⟩
def yX10_add : MethodName := ⟨RX10, "add", "()I"⟩
def yX10_drop : MethodName := ⟨RX10, "drop", "()I"⟩
def yX10_move : MethodName := ⟨RX10, "move", "()I"⟩
def yX10_fill : MethodName := ⟨RX10, "fill", "()I"⟩
def yX10_isFillInPlane : MethodName := ⟨RX10, "isFillInPlane", "()Z"⟩
def yX10_drawShape : MethodName := ⟨RX10, "drawShape", "(LLandBase$Shape;I)I"⟩
def yX10_nextSeed : MethodName := ⟨RX10, "nextSeed", "(I)I"⟩
def yX10_draw : MethodName := ⟨RX10, "draw", "(II)I"⟩
def yX10_find : MethodName := ⟨RX10, "find", "()I"⟩
def yX10_window : MethodName := ⟨RX10, "window", "()I"⟩
def yX10_near : MethodName := ⟨RX10, "near", "()I"⟩
def yX10_sortIn : MethodName := ⟨RX10, "sortIn", "(I)V"⟩
def yX10_join : MethodName := ⟨RX10, "join", "()I"⟩
def RX11 : String := "LandBaseModel$Distance"
def TX11 : u_T := fun k => match k with
  | 0 => ("LandBaseModel$Distance", "num", "[J", true)
  | _ => ("LandBaseModel$Distance", "den", "[J", true)
def tyX11 : Nat → FieldType := fun k => match k with
  | 0 => .array .long
  | _ => .array .long
theorem nmX11 : ∀ a, a < 2 → ∀ b, b < 2 → a ≠ b → (TX11 a).2.1 ≠ (TX11 b).2.1 := by decide +kernel
theorem tyX11_ok : ∀ k, k < 2 → parseFieldDescriptor (TX11 k).2.2.1 = some (tyX11 k) := by decide +kernel
def yX11_init : MethodName := ⟨RX11, "<init>", "()V"⟩
def yX11_take : MethodName := ⟨RX11, "take", "(LLandBaseModel$Distance;)V"⟩
def RX12 : String := "LandBaseModel$Shape"
def TX12 : u_T := fun k => match k with
  | 0 => ("LandBaseModel$Shape", "id", "I", false)
  | 1 => ("LandBaseModel$Shape", "kind", "I", false)
  | 2 => ("LandBaseModel$Shape", "places", "I", false)
  | 3 => ("LandBaseModel$Shape", "rings", "I", false)
  | 4 => ("LandBaseModel$Shape", "ends", "[I", true)
  | 5 => ("LandBaseModel$Shape", "xs", "[I", true)
  | _ => ("LandBaseModel$Shape", "ys", "[I", true)
def tyX12 : Nat → FieldType := fun k => match k with
  | 0 => .int
  | 1 => .int
  | 2 => .int
  | 3 => .int
  | 4 => .array .int
  | 5 => .array .int
  | _ => .array .int
theorem nmX12 : ∀ a, a < 7 → ∀ b, b < 7 → a ≠ b → (TX12 a).2.1 ≠ (TX12 b).2.1 := by decide +kernel
theorem tyX12_ok : ∀ k, k < 7 → parseFieldDescriptor (TX12 k).2.2.1 = some (tyX12 k) := by decide +kernel
def yX12_init : MethodName := ⟨RX12, "<init>", "()V"⟩
def yX12_take : MethodName := ⟨RX12, "take", "(LLandBaseModel$Shape;)V"⟩
def yX12_begin : MethodName := ⟨RX12, "begin", "(I)V"⟩
def yX12_add : MethodName := ⟨RX12, "add", "(II)V"⟩
def yX12_endRing : MethodName := ⟨RX12, "endRing", "()V"⟩
def yX12_beginOf : MethodName := ⟨RX12, "beginOf", "(I)I"⟩
def yX12_isLike : MethodName := ⟨RX12, "isLike", "(II)Z"⟩
def yX12_isWay : MethodName := ⟨RX12, "isWay", "(I)Z"⟩
def yX12_isOpen : MethodName := ⟨RX12, "isOpen", "()Z"⟩
def RX13 : String := "LandBaseModel$State"
def TX13 : u_T := fun k => match k with
  | 0 => ("LandBaseModel$State", "all", "[LLandBaseModel$Shape;", true)
  | _ => ("LandBaseModel$State", "count", "I", false)
def tyX13 : Nat → FieldType := fun k => match k with
  | 0 => .array (.object "LandBaseModel$Shape")
  | _ => .int
theorem nmX13 : ∀ a, a < 2 → ∀ b, b < 2 → a ≠ b → (TX13 a).2.1 ≠ (TX13 b).2.1 := by decide +kernel
theorem tyX13_ok : ∀ k, k < 2 → parseFieldDescriptor (TX13 k).2.2.1 = some (tyX13 k) := by decide +kernel
def yX13_init : MethodName := ⟨RX13, "<init>", "()V"⟩
def yX13_take : MethodName := ⟨RX13, "take", "(LLandBaseModel$State;)V"⟩
def yX13_find : MethodName := ⟨RX13, "find", "(I)I"⟩
def yX13_add : MethodName := ⟨RX13, "add", "(ILLandBaseModel$Shape;)V"⟩
def yX13_drop : MethodName := ⟨RX13, "drop", "(I)V"⟩
def RX14 : String := "LandBaseModel"
def TX14 : u_T := fun k => match k with
  | 0 => ("LandBaseModel", "wideOne", "[J", true)
  | 1 => ("LandBaseModel", "wideTwo", "[J", true)
  | 2 => ("LandBaseModel", "wideLeft", "[J", true)
  | 3 => ("LandBaseModel", "wideRight", "[J", true)
  | 4 => ("LandBaseModel", "sawInside", "Z", false)
  | 5 => ("LandBaseModel", "sawOutside", "Z", false)
  | 6 => ("LandBaseModel", "sawAlong", "Z", false)
  | 7 => ("LandBaseModel", "sawSameSide", "Z", false)
  | 8 => ("LandBaseModel", "isMet", "Z", false)
  | 9 => ("LandBaseModel", "isInLine", "Z", false)
  | 10 => ("LandBaseModel", "whole", "J", false)
  | 11 => ("LandBaseModel", "part", "J", false)
  | 12 => ("LandBaseModel", "otherPart", "J", false)
  | 13 => ("LandBaseModel", "cuts", "I", false)
  | 14 => ("LandBaseModel", "cutParts", "[J", true)
  | 15 => ("LandBaseModel", "cutWholes", "[J", true)
  | 16 => ("LandBaseModel", "isThere", "Z", false)
  | 17 => ("LandBaseModel", "isAlong", "Z", false)
  | 18 => ("LandBaseModel", "alongLeft", "Z", false)
  | 19 => ("LandBaseModel", "nearHalf", "I", false)
  | 20 => ("LandBaseModel", "nearX", "J", false)
  | 21 => ("LandBaseModel", "nearY", "J", false)
  | 22 => ("LandBaseModel", "nearLeft", "Z", false)
  | 23 => ("LandBaseModel", "lefts", "[Z", true)
  | 24 => ("LandBaseModel", "ringLine", "LLandBaseModel$Shape;", true)
  | 25 => ("LandBaseModel", "ringArea", "LLandBaseModel$Shape;", true)
  | 26 => ("LandBaseModel", "groups", "[I", true)
  | 27 => ("LandBaseModel", "here", "LLandBaseModel$Distance;", true)
  | 28 => ("LandBaseModel", "nearOne", "LLandBaseModel$Distance;", true)
  | 29 => ("LandBaseModel", "nearTwo", "LLandBaseModel$Distance;", true)
  | 30 => ("LandBaseModel", "live", "LLandBaseModel$State;", true)
  | 31 => ("LandBaseModel", "committed", "LLandBaseModel$State;", true)
  | 32 => ("LandBaseModel", "isOpen", "Z", false)
  | 33 => ("LandBaseModel", "isDown", "Z", false)
  | 34 => ("LandBaseModel", "bytes", "I", false)
  | 35 => ("LandBaseModel", "used", "I", false)
  | 36 => ("LandBaseModel", "saves", "I", false)
  | 37 => ("LandBaseModel", "crashKind", "I", false)
  | 38 => ("LandBaseModel", "crashIn", "I", false)
  | 39 => ("LandBaseModel", "tape", "[I", true)
  | 40 => ("LandBaseModel", "size", "I", false)
  | 41 => ("LandBaseModel", "at", "I", false)
  | 42 => ("LandBaseModel", "wrongAt", "I", false)
  | 43 => ("LandBaseModel", "ints", "[I", true)
  | 44 => ("LandBaseModel", "outs", "I", false)
  | 45 => ("LandBaseModel", "token", "I", false)
  | 46 => ("LandBaseModel", "begin", "I", false)
  | 47 => ("LandBaseModel", "number", "I", false)
  | 48 => ("LandBaseModel", "isWrong", "Z", false)
  | 49 => ("LandBaseModel", "shape", "LLandBaseModel$Shape;", true)
  | 50 => ("LandBaseModel", "readPlaces", "I", false)
  | 51 => ("LandBaseModel", "readRings", "I", false)
  | 52 => ("LandBaseModel", "args", "[I", true)
  | 53 => ("LandBaseModel", "window", "LLandBaseModel$Shape;", true)
  | 54 => ("LandBaseModel", "distances", "[LLandBaseModel$Distance;", true)
  | 55 => ("LandBaseModel", "order", "[I", true)
  | 56 => ("LandBaseModel", "seed", "I", false)
  | _ => ("LandBaseModel", "answers", "I", false)
def tyX14 : Nat → FieldType := fun k => match k with
  | 0 => .array .long
  | 1 => .array .long
  | 2 => .array .long
  | 3 => .array .long
  | 4 => .boolean
  | 5 => .boolean
  | 6 => .boolean
  | 7 => .boolean
  | 8 => .boolean
  | 9 => .boolean
  | 10 => .long
  | 11 => .long
  | 12 => .long
  | 13 => .int
  | 14 => .array .long
  | 15 => .array .long
  | 16 => .boolean
  | 17 => .boolean
  | 18 => .boolean
  | 19 => .int
  | 20 => .long
  | 21 => .long
  | 22 => .boolean
  | 23 => .array .boolean
  | 24 => .object "LandBaseModel$Shape"
  | 25 => .object "LandBaseModel$Shape"
  | 26 => .array .int
  | 27 => .object "LandBaseModel$Distance"
  | 28 => .object "LandBaseModel$Distance"
  | 29 => .object "LandBaseModel$Distance"
  | 30 => .object "LandBaseModel$State"
  | 31 => .object "LandBaseModel$State"
  | 32 => .boolean
  | 33 => .boolean
  | 34 => .int
  | 35 => .int
  | 36 => .int
  | 37 => .int
  | 38 => .int
  | 39 => .array .int
  | 40 => .int
  | 41 => .int
  | 42 => .int
  | 43 => .array .int
  | 44 => .int
  | 45 => .int
  | 46 => .int
  | 47 => .int
  | 48 => .boolean
  | 49 => .object "LandBaseModel$Shape"
  | 50 => .int
  | 51 => .int
  | 52 => .array .int
  | 53 => .object "LandBaseModel$Shape"
  | 54 => .array (.object "LandBaseModel$Distance")
  | 55 => .array .int
  | 56 => .int
  | _ => .int
theorem nmX14 : ∀ a, a < 58 → ∀ b, b < 58 → a ≠ b → (TX14 a).2.1 ≠ (TX14 b).2.1 := by decide +kernel
theorem tyX14_ok : ∀ k, k < 58 → parseFieldDescriptor (TX14 k).2.2.1 = some (tyX14 k) := by decide +kernel
def yX14_set : MethodName := ⟨RX14, "set", "([JJ)V"⟩
def yX14_copy : MethodName := ⟨RX14, "copy", "([J[J)V"⟩
def yX14_times : MethodName := ⟨RX14, "times", "([J[J[J)V"⟩
def yX14_compare : MethodName := ⟨RX14, "compare", "([J[J)I"⟩
def yX14_compare_ : MethodName := ⟨RX14, "compare", "(JJJJ)I"⟩
def yX14_cross : MethodName := ⟨RX14, "cross", "(JJJJ)J"⟩
def yX14_dot : MethodName := ⟨RX14, "dot", "(JJJJ)J"⟩
def yX14_sign : MethodName := ⟨RX14, "sign", "(J)I"⟩
def yX14_side : MethodName := ⟨RX14, "side", "(LLandBaseModel$Shape;III)I"⟩
def yX14_isBetween : MethodName := ⟨RX14, "isBetween", "(III)Z"⟩
def yX14_isOn : MethodName := ⟨RX14, "isOn", "(LLandBaseModel$Shape;III)Z"⟩
def yX14_isOnRing : MethodName := ⟨RX14, "isOnRing", "(LLandBaseModel$Shape;III)Z"⟩
def yX14_meet : MethodName := ⟨RX14, "meet", "(LLandBaseModel$Shape;ILLandBaseModel$Shape;I)Z"⟩
def yX14_locate : MethodName := ⟨RX14, "locate", "(LLandBaseModel$Shape;II)I"⟩
def yX14_isLeftRound : MethodName := ⟨RX14, "isLeftRound", "(LLandBaseModel$Shape;I)Z"⟩
def yX14_isInteriorLeft : MethodName := ⟨RX14, "isInteriorLeft", "(LLandBaseModel$Shape;I)Z"⟩
def yX14_ringOf : MethodName := ⟨RX14, "ringOf", "(LLandBaseModel$Shape;I)I"⟩
def yX14_meetWays : MethodName := ⟨RX14, "meetWays", "(LLandBaseModel$Shape;ILLandBaseModel$Shape;I)V"⟩
def yX14_cut : MethodName := ⟨RX14, "cut", "(J)V"⟩
def yX14_begins : MethodName := ⟨RX14, "begins", "(JJZJJ)V"⟩
def yX14_lookRound : MethodName := ⟨RX14, "lookRound", "(LLandBaseModel$Shape;ILLandBaseModel$Shape;JJ)V"⟩
def yX14_goAlong : MethodName := ⟨RX14, "goAlong", "(LLandBaseModel$Shape;LLandBaseModel$Shape;)V"⟩
def yX14_goPiece : MethodName := ⟨RX14, "goPiece", "(LLandBaseModel$Shape;ILLandBaseModel$Shape;JJ)V"⟩
def yX14_extreme : MethodName := ⟨RX14, "extreme", "(LLandBaseModel$Shape;ZZ)I"⟩
def yX14_areApart : MethodName := ⟨RX14, "areApart", "(LLandBaseModel$Shape;LLandBaseModel$Shape;Z)Z"⟩
def yX14_intersect : MethodName := ⟨RX14, "intersect", "(LLandBaseModel$Shape;LLandBaseModel$Shape;)Z"⟩
def yX14_overlap : MethodName := ⟨RX14, "overlap", "(LLandBaseModel$Shape;LLandBaseModel$Shape;)Z"⟩
def yX14_crossInside : MethodName := ⟨RX14, "crossInside", "(LLandBaseModel$Shape;LLandBaseModel$Shape;)Z"⟩
def yX14_isEndAt : MethodName := ⟨RX14, "isEndAt", "(LLandBaseModel$Shape;LLandBaseModel$Shape;ILLandBaseModel$Shape;I)Z"⟩
def yX14_isInner : MethodName := ⟨RX14, "isInner", "(LLandBaseModel$Shape;LLandBaseModel$Shape;LLandBaseModel$Shape;I)Z"⟩
def yX14_isWithin : MethodName := ⟨RX14, "isWithin", "(LLandBaseModel$Shape;LLandBaseModel$Shape;)Z"⟩
def yX14_relates : MethodName := ⟨RX14, "relates", "(ILLandBaseModel$Shape;LLandBaseModel$Shape;)Z"⟩
def yX14_takeRing : MethodName := ⟨RX14, "takeRing", "(LLandBaseModel$Shape;LLandBaseModel$Shape;II)V"⟩
def yX14_hasSteps : MethodName := ⟨RX14, "hasSteps", "(LLandBaseModel$Shape;)Z"⟩
def yX14_isSimple : MethodName := ⟨RX14, "isSimple", "(LLandBaseModel$Shape;I)Z"⟩
def yX14_areRingsRight : MethodName := ⟨RX14, "areRingsRight", "(LLandBaseModel$Shape;)Z"⟩
def yX14_isOnePiece : MethodName := ⟨RX14, "isOnePiece", "(LLandBaseModel$Shape;)Z"⟩
def yX14_join : MethodName := ⟨RX14, "join", "(III)V"⟩
def yX14_isValid : MethodName := ⟨RX14, "isValid", "(LLandBaseModel$Shape;)Z"⟩
def yX14_compare__ : MethodName := ⟨RX14, "compare", "(LLandBaseModel$Distance;LLandBaseModel$Distance;)I"⟩
def yX14_hereIs : MethodName := ⟨RX14, "hereIs", "(JJ)V"⟩
def yX14_fromPoint : MethodName := ⟨RX14, "fromPoint", "(JJ)V"⟩
def yX14_fromWay : MethodName := ⟨RX14, "fromWay", "(LLandBaseModel$Shape;III)V"⟩
def yX14_distance : MethodName := ⟨RX14, "distance", "(LLandBaseModel$Shape;IILLandBaseModel$Distance;)V"⟩
def yX14_fall : MethodName := ⟨RX14, "fall", "()V"⟩
def yX14_isBlockWritten : MethodName := ⟨RX14, "isBlockWritten", "()Z"⟩
def yX14_isSaved : MethodName := ⟨RX14, "isSaved", "()Z"⟩
def yX14_isCommitted : MethodName := ⟨RX14, "isCommitted", "()Z"⟩
def yX14_hasRoom : MethodName := ⟨RX14, "hasRoom", "(I)Z"⟩
def yX14_put : MethodName := ⟨RX14, "put", "(I)V"⟩
def yX14_refuse : MethodName := ⟨RX14, "refuse", "()V"⟩
def yX14_byteAt : MethodName := ⟨RX14, "byteAt", "(I)I"⟩
def yX14_isGreat : MethodName := ⟨RX14, "isGreat", "(I)Z"⟩
def yX14_isDigit : MethodName := ⟨RX14, "isDigit", "(I)Z"⟩
def yX14_next : MethodName := ⟨RX14, "next", "()V"⟩
def yX14_readNumber : MethodName := ⟨RX14, "readNumber", "(Z)V"⟩
def yX14_isWord : MethodName := ⟨RX14, "isWord", "(Ljava/lang/String;)Z"⟩
def yX14_isSign : MethodName := ⟨RX14, "isSign", "(I)Z"⟩
def yX14_expect : MethodName := ⟨RX14, "expect", "(I)V"⟩
def yX14_readInt : MethodName := ⟨RX14, "readInt", "()I"⟩
def yX14_readPlace : MethodName := ⟨RX14, "readPlace", "()V"⟩
def yX14_readPlaceRow : MethodName := ⟨RX14, "readPlaceRow", "()V"⟩
def yX14_readShape : MethodName := ⟨RX14, "readShape", "()V"⟩
def yX14_isTooGreat : MethodName := ⟨RX14, "isTooGreat", "()Z"⟩
def yX14_init : MethodName := ⟨RX14, "<init>", "()V"⟩
def yX14_readInts : MethodName := ⟨RX14, "readInts", "(I)V"⟩
def yX14_relationHere : MethodName := ⟨RX14, "relationHere", "()I"⟩
def yX14_statement : MethodName := ⟨RX14, "statement", "()V"⟩
def yX14_readPlain : MethodName := ⟨RX14, "readPlain", "()V"⟩
def yX14_readFill : MethodName := ⟨RX14, "readFill", "()V"⟩
def yX14_changed : MethodName := ⟨RX14, "changed", "(I)V"⟩
def yX14_add : MethodName := ⟨RX14, "add", "(I)V"⟩
def yX14_drop : MethodName := ⟨RX14, "drop", "(I)V"⟩
def yX14_isNumber : MethodName := ⟨RX14, "isNumber", "(J)Z"⟩
def yX14_move : MethodName := ⟨RX14, "move", "(III)V"⟩
def yX14_draw : MethodName := ⟨RX14, "draw", "(I)I"⟩
def yX14_fill : MethodName := ⟨RX14, "fill", "(IIIIIII)V"⟩
def yX14_made : MethodName := ⟨RX14, "made", "(IIII)V"⟩
def yX14_beginAnswers : MethodName := ⟨RX14, "beginAnswers", "()V"⟩
def yX14_answer : MethodName := ⟨RX14, "answer", "(I)V"⟩
def yX14_endAnswers : MethodName := ⟨RX14, "endAnswers", "(I)V"⟩
def yX14_find : MethodName := ⟨RX14, "find", "(I)V"⟩
def yX14_windowOf : MethodName := ⟨RX14, "windowOf", "(IIII)V"⟩
def yX14_near : MethodName := ⟨RX14, "near", "(III)V"⟩
def yX14_joinOf : MethodName := ⟨RX14, "joinOf", "(IIIII)V"⟩
def yX14_lay : MethodName := ⟨RX14, "lay", "(J)V"⟩
def yX14_feed : MethodName := ⟨RX14, "feed", "(JJJJJ)I"⟩
def yX14_end : MethodName := ⟨RX14, "end", "(I)I"⟩
def yX14_run : MethodName := ⟨RX14, "run", "()I"⟩
def yX14_wrong : MethodName := ⟨RX14, "wrong", "()I"⟩
def yX14_outputs : MethodName := ⟨RX14, "outputs", "()I"⟩
def yX14_out : MethodName := ⟨RX14, "out", "(I)I"⟩
def yX14_crash : MethodName := ⟨RX14, "crash", "(III)Z"⟩
def yX14_recover : MethodName := ⟨RX14, "recover", "()I"⟩
def yX14_isDown : MethodName := ⟨RX14, "isDown", "()Z"⟩
def yX14_isOpen : MethodName := ⟨RX14, "isOpen", "()Z"⟩
def yX14_live : MethodName := ⟨RX14, "live", "()I"⟩
def yX14_idAt : MethodName := ⟨RX14, "idAt", "(I)I"⟩
def yX14_standing : MethodName := ⟨RX14, "standing", "(I)I"⟩
def yX14_kindOf : MethodName := ⟨RX14, "kindOf", "(I)I"⟩
def yX14_places : MethodName := ⟨RX14, "places", "(I)I"⟩
def yX14_rings : MethodName := ⟨RX14, "rings", "(I)I"⟩
def yX14_at : MethodName := ⟨RX14, "at", "(III)I"⟩
def yX14_relate : MethodName := ⟨RX14, "relate", "(III)I"⟩
def yX14_nearer : MethodName := ⟨RX14, "nearer", "(IIII)I"⟩
def yX14_used : MethodName := ⟨RX14, "used", "()I"⟩
def yX14_saves : MethodName := ⟨RX14, "saves", "()I"⟩
def yX14_flaws : MethodName := ⟨RX14, "flaws", "()I"⟩
def RJ13 : String := "java/lang/Long"
def yJ13_compare_74951 : MethodName := ⟨RJ13, "compare", "(JJ)I"⟩
def RJ9 : String := "java/lang/Math"
def yJ9_max_7cf53 : MethodName := ⟨RJ9, "max", "(II)I"⟩
def yJ9_max_f86c9 : MethodName := ⟨RJ9, "max", "(JJ)J"⟩
def yJ9_min_7cf53 : MethodName := ⟨RJ9, "min", "(II)I"⟩
def yJ9_min_f86c9 : MethodName := ⟨RJ9, "min", "(JJ)J"⟩
def RJ0 : String := "java/lang/String"
def yJ0_length_8abf5 : MethodName := ⟨RJ0, "length", "()I"⟩
def yJ0_charAt_5068e : MethodName := ⟨RJ0, "charAt", "(I)C"⟩
def yJ0_coder_7d493 : MethodName := ⟨RJ0, "coder", "()B"⟩
def yJ0_isLatin1_aae02 : MethodName := ⟨RJ0, "isLatin1", "()Z"⟩
def yJ0_checkIndex_df160 : MethodName := ⟨RJ0, "checkIndex", "(II)V"⟩
def RJ1 : String := "java/lang/StringLatin1"
def yJ1_charAt_3b067 : MethodName := ⟨RJ1, "charAt", "([BI)C"⟩
def RJ2 : String := "java/lang/StringUTF16"
def yJ2_getChar_3b067 : MethodName := ⟨RJ2, "getChar", "([BI)C"⟩
def yJ2_length_9d52b : MethodName := ⟨RJ2, "length", "([B)I"⟩
def yJ2_charAt_3b067 : MethodName := ⟨RJ2, "charAt", "([BI)C"⟩
def yJ2_checkIndex_2214a : MethodName := ⟨RJ2, "checkIndex", "(I[B)V"⟩
def RJ3 : String := "jdk/internal/util/Preconditions"
def yJ3_checkIndex_8e157 : MethodName := ⟨RJ3, "checkIndex", "(IILjava/util/function/BiFunction;)I"⟩
def RL : String := "LandBaseLaw"
abbrev vwCl : List vw_C := [(RX0, TX0, 2), (RX1, TX1, 14), (RX2, TX2, 3), (RX3, TX3, 12), (RX5, TX5, 6), (RX6, TX6, 1), (RX7, TX7, 13), (RX8, TX8, 3), (RX9, TX9, 6), (RX10, TX10, 11), (RX11, TX11, 2), (RX12, TX12, 7), (RX13, TX13, 2), (RX14, TX14, 58)]
end
section
/-! THE ABSTRACT MACHINE: an object heap of our own over the kit's rows. A method is M = (its name, code, locals, answer's type, level). Ev G M pc L S h v h': from the frame of M at pc with locals L and stack S over the heap h the method ends, answers v and leaves h'. -/
abbrev xM : Type := MethodName × ByteArray × Nat × Option FieldType × Nat
abbrev xNm (M : xM) : MethodName := M.1
abbrev xOwn (M : xM) : String := M.1.cls
abbrev xBy (M : xM) : ByteArray := M.2.1
abbrev xMl (M : xM) : Nat := M.2.2.1
abbrev xRt (M : xM) : Option FieldType := M.2.2.2.1
abbrev xLv (M : xM) : Nat := M.2.2.2.2
/-- arrays: number of the type, length, contents; objects: number of the sort, fields. References inside are our own addresses -/
abbrev xC : Type := (Nat × vp_A) ⊕ (Nat × List Value)
/-- how many cells, how many slots, the cells -/
abbrev xH : Type := (Nat × Nat) × (Nat → Option xC)
/-- launch; class ids and slots; array class ids; addresses of texts and of their bytes, the script's address; the heap at the law's entry; the script's length and ints -/
abbrev xG : Type := Launch × va_G × (Nat → ClassId) × ((Nat → Nat) × (Nat → Nat)) × Heap × (Nat × (Nat → Int32))
abbrev gL (G : xG) : Launch := G.1
abbrev gD (G : xG) : va_G := G.2.1
abbrev gA (G : xG) : Nat → ClassId := G.2.2.1
abbrev gX (G : xG) : Nat → Nat := G.2.2.2.1.1
abbrev gV (G : xG) : Nat → Nat := G.2.2.2.1.2
abbrev gH (G : xG) : Heap := G.2.2.2.2.1
abbrev gN (G : xG) : Nat := G.2.2.2.2.2.1
abbrev gS (G : xG) : Nat → Int32 := G.2.2.2.2.2.2
abbrev gB (G : xG) : Nat := (gH G).size
/-- a value of ours in the machine -/
def xv (G : xG) : Value → Value
  | .ref a => .ref (gB G + a)
  | .retAddr j => .ref (gX G j)
  | v => v
theorem xv_cat (G : xG) (v : Value) : (xv G v).category = v.category := by cases v <;> rfl
def xa (G : xG) : vp_A → vp_A
  | (n, .inr (.inr (.inr (.inr f)))) => (n, .inr (.inr (.inr (.inr (fun j => (f j).map (fun a => gB G + a))))))
  | a => a
def xe (G : xG) : xC → va_E
  | .inl (t, a) => .inl (gA G t, xa G a)
  | .inr (ci, fs) => .inr (ci, fs.map (xv G))
/-- the array types -/
def xty : Nat → FieldType
  | 0 => .int
  | 1 => .byte
  | 2 => .long
  | 3 => .boolean
  | 4 => .object "LandBase$Shape"
  | 5 => .object "LandBase$Distance"
  | 6 => .object "LandBaseModel$Shape"
  | _ => .object "LandBaseModel$Distance"
def xtys (G : xG) : List (ClassId × FieldType) := [(gA G 0, xty 0), (gA G 1, xty 1), (gA G 2, xty 2), (gA G 3, xty 3), (gA G 4, xty 4), (gA G 5, xty 5), (gA G 6, xty 6), (gA G 7, xty 7)]
theorem xtys_at (G : xG) {t : Nat} (h : t < 8) : (xtys G)[t]? = some (gA G t, xty t) := by
  rcases (show t = 0 ∨ t = 1 ∨ t = 2 ∨ t = 3 ∨ t = 4 ∨ t = 5 ∨ t = 6 ∨ t = 7 by omega) with rfl | rfl | rfl | rfl | rfl | rfl | rfl | rfl <;> rfl
/-- the words that carry over by themselves, and those of nest mates -/
def xW : List Cond := lw_tbl.filter goodWord
def xIsN : Cond → Bool
  | .fieldLinkNest .. => true
  | .methodLinkNest .. => true
  | _ => false
def xN : List Cond := lw_tbl.filter xIsN
theorem xW_in {w : Cond} (h : w ∈ lw_tbl) (g : goodWord w = true) : w ∈ xW := List.mem_filter.mpr ⟨h, g⟩
theorem xN_in {w : Cond} (h : w ∈ lw_tbl) (g : xIsN w = true) : w ∈ xN := List.mem_filter.mpr ⟨h, g⟩
def xws (M : xM) : List Cond := .code (xNm M) (xBy M) (xMl M) (xRt M) :: xW
/-- the text constants: class, pool number, text -/
def xTx : List (String × Nat × String) := [("LandBase$Reader", 26, "ADD DROP MOVE FILL BEGIN COMMIT ABORT PACK SAVE FIND WINDOW NEAR JOIN"), ("LandBase$Reader", 74, "POINT LINESTRING POLYGON"), ("LandBase$Reader", 64, "POINTS LINES SQUARES"), ("LandBase$Reader", 69, "INTERSECTS DISJOINT TOUCHES WITHIN CONTAINS"), ("LandBaseModel", 494, "ADD"), ("LandBaseModel", 444, "POINT"), ("LandBaseModel", 450, "LINESTRING"), ("LandBaseModel", 452, "POLYGON"), ("LandBaseModel", 504, "DROP"), ("LandBaseModel", 509, "MOVE"), ("LandBaseModel", 514, "FILL"), ("LandBaseModel", 563, "POINTS"), ("LandBaseModel", 565, "LINES"), ("LandBaseModel", 567, "SQUARES"), ("LandBaseModel", 519, "FIND"), ("LandBaseModel", 484, "INTERSECTS"), ("LandBaseModel", 486, "DISJOINT"), ("LandBaseModel", 488, "TOUCHES"), ("LandBaseModel", 490, "WITHIN"), ("LandBaseModel", 492, "CONTAINS"), ("LandBaseModel", 527, "WINDOW"), ("LandBaseModel", 533, "NEAR"), ("LandBaseModel", 538, "JOIN"), ("LandBaseModel", 547, "BEGIN"), ("LandBaseModel", 549, "COMMIT"), ("LandBaseModel", 551, "ABORT"), ("LandBaseModel", 553, "PACK"), ("LandBaseModel", 555, "SAVE")]
/-- the bytes of a text constant -/
def xTl : List (List Int32) := [[65, 68, 68, 32, 68, 82, 79, 80, 32, 77, 79, 86, 69, 32, 70, 73, 76, 76, 32, 66, 69, 71, 73, 78, 32, 67, 79, 77, 77, 73, 84, 32, 65, 66, 79, 82, 84, 32, 80, 65, 67, 75, 32, 83, 65, 86, 69, 32, 70, 73, 78, 68, 32, 87, 73, 78, 68, 79, 87, 32, 78, 69, 65, 82, 32, 74, 79, 73, 78], [80, 79, 73, 78, 84, 32, 76, 73, 78, 69, 83, 84, 82, 73, 78, 71, 32, 80, 79, 76, 89, 71, 79, 78], [80, 79, 73, 78, 84, 83, 32, 76, 73, 78, 69, 83, 32, 83, 81, 85, 65, 82, 69, 83], [73, 78, 84, 69, 82, 83, 69, 67, 84, 83, 32, 68, 73, 83, 74, 79, 73, 78, 84, 32, 84, 79, 85, 67, 72, 69, 83, 32, 87, 73, 84, 72, 73, 78, 32, 67, 79, 78, 84, 65, 73, 78, 83], [65, 68, 68], [80, 79, 73, 78, 84], [76, 73, 78, 69, 83, 84, 82, 73, 78, 71], [80, 79, 76, 89, 71, 79, 78], [68, 82, 79, 80], [77, 79, 86, 69], [70, 73, 76, 76], [80, 79, 73, 78, 84, 83], [76, 73, 78, 69, 83], [83, 81, 85, 65, 82, 69, 83], [70, 73, 78, 68], [73, 78, 84, 69, 82, 83, 69, 67, 84, 83], [68, 73, 83, 74, 79, 73, 78, 84], [84, 79, 85, 67, 72, 69, 83], [87, 73, 84, 72, 73, 78], [67, 79, 78, 84, 65, 73, 78, 83], [87, 73, 78, 68, 79, 87], [78, 69, 65, 82], [74, 79, 73, 78], [66, 69, 71, 73, 78], [67, 79, 77, 77, 73, 84], [65, 66, 79, 82, 84], [80, 65, 67, 75], [83, 65, 86, 69]]
def xTb (j : Nat) : List Int32 := xTl.getD j []
abbrev xOut (G : xG) : Nat → Prop := fun q => gB G ≤ q
def xStr (G : xG) (U : State) : Prop :=
  (∀ (j : Nat) (q : String × Nat × String), xTx[j]? = some q → vk_R q.1 q.2.1 q.2.2 (gX G j) U ∧ va_O "java/lang/String" (gX G j) (xOut G) U (gH G) ∧ va_OF "java/lang/String" "coder" "B" (.int 0) (gX G j) (xOut G) U (gH G) ∧ va_OF "java/lang/String" "value" "[B" (.ref (gV G j)) (gX G j) (xOut G) U (gH G) ∧ va_T .byte (gV G j) (xTb j).length (fun i => .int ((xTb j).getD i 0)) (xOut G) U (gH G)) ∧
  va_Z "java/lang/String" "COMPACT_STRINGS" "Z" (.int 1) (xOut G) U (gH G)
/-- what is known of the tables -/
def xKn (G : xG) (U : State) : Prop := va_K (gD G) vwCl (xtys G) U ∧ (∀ w ∈ xN, va_Nw w U) ∧ (∀ t, 4 ≤ t → t < 8 → ∀ C, xty t = .object C → va_AO C U) ∧ xStr G U ∧ va_X (gX G 99) (gN G) (gS G) U (gH G)
theorem xKn.warm {G : xG} {s U : State} (hW : s.WarmedH U.vm) (h : xKn G s) : xKn G U := by
  obtain ⟨h1, h2, h3, ⟨h4, h5⟩, scr, g1, g2, g3⟩ := h
  refine ⟨va_K.moved hW.alike h1, fun w hw => ?_, fun t a b C e => va_AO.moved hW.alike (h3 t a b C e), ⟨fun j q hq => ?_, va_Z.moved hW.alike h5⟩, scr, g1, State.isArrayOf_alike hW.alike g2, g3⟩
  · have hn := (List.mem_filter.mp hw).2
    have h := h2 w hw
    cases w <;> first | (simp [xIsN] at hn; done) | exact va_Nw.warmF hW h | exact va_Nw.warmM hW h
  · obtain ⟨a, b, c, d, e⟩ := h4 j q hq
    exact ⟨vk_R.warm hW a, va_O.moved hW.alike b, va_OF.moved hW.alike c, va_OF.moved hW.alike d, va_T.moved hW.alike e⟩
/-- the machine's heap holds ours -/
def xHp (G : xG) (h : xH) (H : Heap) : Prop := H.size = gB G + h.1.1 ∧ ∀ (a : Nat) (c : xC), h.2 a = some c → va_at (gD G) vwCl (gB G + a, xe G c) H
abbrev xS (G : xG) (H : Heap) (locs : List Loc) : Prop := va_S (xOut G) (gH G) H locs
/-- put a cell in the place of another -/
def xput (h : xH) (a : Nat) (c : xC) : xH := (h.1, fun b => if b = a then some c else h.2 b)
/-- a new cell of n slots -/
def xnew (h : xH) (n : Nat) (c : xC) : xH := ((h.1.1 + 1, h.1.2 + n), fun b => if b = h.1.1 then some c else h.2 b)
theorem xput_at (h : xH) (a : Nat) (c : xC) : (xput h a c).2 a = some c := by simp [xput]
theorem xput_ne (h : xH) {a b : Nat} (c : xC) (n : b ≠ a) : (xput h a c).2 b = h.2 b := by simp [xput, n]
theorem xnew_at (h : xH) (n : Nat) (c : xC) : (xnew h n c).2 h.1.1 = some c := by simp [xnew]
theorem xnew_ne (h : xH) (n : Nat) {b : Nat} (c : xC) (e : b ≠ h.1.1) : (xnew h n c).2 b = h.2 b := by simp [xnew, e]
theorem xHp.lt {G : xG} {h : xH} {H : Heap} (hp : xHp G h H) {a : Nat} {c : xC} (e : h.2 a = some c) : a < h.1.1 := by
  have h1 := (hp.2 a c e).lt
  rw [hp.1] at h1
  exact Nat.lt_of_add_lt_add_left h1
theorem xHp.put {G : xG} {h : xH} {H H1 : Heap} (hp : xHp G h H) {a : Nat} {c : xC} (z : H1.size = H.size) (oq : ∀ q : Nat, q ≠ gB G + a → H1[q]? = H[q]?) (he : va_at (gD G) vwCl (gB G + a, xe G c) H1) : xHp G (xput h a c) H1 := by
  refine ⟨by rw [z]; exact hp.1, fun b c' e => ?_⟩
  by_cases hb : b = a
  · subst hb
    rw [xput_at] at e
    cases e
    exact he
  · rw [xput_ne _ _ hb] at e
    exact (hp.2 b c' e).kept (oq (gB G + b) (by omega))
theorem xHp.new {G : xG} {h : xH} {H H1 : Heap} (hp : xHp G h H) {n : Nat} {c : xC} (z : H1.size = H.size + 1) (oq : ∀ q : Nat, q < H.size → H1[q]? = H[q]?) (he : va_at (gD G) vwCl (gB G + h.1.1, xe G c) H1) : xHp G (xnew h n c) H1 := by
  refine ⟨by rw [z, hp.1]; exact Nat.add_assoc _ _ _, fun b c' e => ?_⟩
  by_cases hb : b = h.1.1
  · subst hb
    rw [xnew_at] at e
    cases e
    exact he
  · rw [xnew_ne _ _ _ hb] at e
    have hl := (hp.2 b c' e).lt
    exact (hp.2 b c' e).kept (oq (gB G + b) hl)
/-- locals by their places -/
abbrev xL : Type := List (Option Value)
def xps (G : xG) : Nat → xL → List (Nat × Value)
  | _, [] => []
  | i, none :: r => xps G (i + 1) r
  | i, some v :: r => (i, xv G v) :: xps G (i + 1) r
theorem xps_mem (G : xG) : ∀ (L : xL) (i : Nat) (q : Nat × Value), q ∈ xps G i L ↔ ∃ n v, L[n]? = some (some v) ∧ q = (i + n, xv G v) := by
  intro L
  induction L with
  | nil => intro i q; simp [xps]
  | cons o r ih =>
    intro i q
    cases o with
    | none =>
      rw [xps, ih]
      constructor
      · rintro ⟨n, v, h1, rfl⟩
        exact ⟨n + 1, v, by simpa using h1, by rw [Nat.add_assoc, Nat.add_comm 1 n]⟩
      · rintro ⟨n, v, h1, rfl⟩
        cases n with
        | zero => simp at h1
        | succ n => exact ⟨n, v, by simpa using h1, by rw [Nat.add_assoc, Nat.add_comm 1 n]⟩
    | some w =>
      rw [xps, List.mem_cons, ih]
      constructor
      · rintro (rfl | ⟨n, v, h1, rfl⟩)
        · exact ⟨0, w, rfl, rfl⟩
        · exact ⟨n + 1, v, by simpa using h1, by rw [Nat.add_assoc, Nat.add_comm 1 n]⟩
      · rintro ⟨n, v, h1, rfl⟩
        cases n with
        | zero => simp at h1; subst h1; exact Or.inl rfl
        | succ n => exact Or.inr ⟨n, v, by simpa using h1, by rw [Nat.add_assoc, Nat.add_comm 1 n]⟩
/-- a long or double just ahead of a place that is written is gone -/
def xcl : Option Value → Option Value
  | some (.long _) => none
  | some (.double _) => none
  | o => o
def xs1 (v : Value) : Nat → xL → xL
  | _, [] => []
  | 0, _ :: r => some v :: r
  | n + 1, o :: r => (match n with | 0 => xcl o | _ + 1 => o) :: xs1 v n r
def xs2 (v : Value) : Nat → xL → xL
  | _, [] => []
  | 0, _ :: r => some v :: (match r with | [] => [] | _ :: r' => none :: r')
  | n + 1, o :: r => (match n with | 0 => xcl o | _ + 1 => o) :: xs2 v n r
theorem xcl_get {o : Option Value} {u : Value} (h : xcl o = some u) : o = some u ∧ u.category ≠ 2 := by
  cases o with
  | none => cases h
  | some w => cases w <;> simp [xcl] at h <;> subst h <;> exact ⟨rfl, by simp [Value.category]⟩
theorem xs1_get (v : Value) : ∀ (L : xL) (i j : Nat) (u : Value), (xs1 v i L)[j]? = some (some u) → (j = i ∧ u = v) ∨ (j ≠ i ∧ L[j]? = some (some u) ∧ ¬ (j + 1 = i ∧ u.category = 2)) := by
  intro L
  induction L with
  | nil => intro i j u h; simp [xs1] at h
  | cons o r ih =>
    intro i j u h
    cases i with
    | zero =>
      cases j with
      | zero => simp [xs1] at h; exact Or.inl ⟨rfl, h.symm⟩
      | succ j => exact Or.inr ⟨by omega, by simpa [xs1] using h, by omega⟩
    | succ n =>
      cases j with
      | zero =>
        cases n with
        | zero =>
          simp [xs1] at h
          obtain ⟨h1, h2⟩ := xcl_get h
          exact Or.inr ⟨by omega, by simp [h1], fun z => h2 z.2⟩
        | succ n =>
          simp [xs1] at h
          exact Or.inr ⟨by omega, by simp [h], by omega⟩
      | succ j =>
        have h' : (xs1 v n r)[j]? = some (some u) := by simpa [xs1] using h
        rcases ih n j u h' with ⟨a, b⟩ | ⟨a, b, c⟩
        · exact Or.inl ⟨by omega, b⟩
        · exact Or.inr ⟨by omega, by simpa using b, fun z => c ⟨by omega, z.2⟩⟩
theorem xs2_get (v : Value) : ∀ (L : xL) (i j : Nat) (u : Value), (xs2 v i L)[j]? = some (some u) → (j = i ∧ u = v) ∨ (j ≠ i ∧ j ≠ i + 1 ∧ L[j]? = some (some u) ∧ ¬ (j + 1 = i ∧ u.category = 2)) := by
  intro L
  induction L with
  | nil => intro i j u h; simp [xs2] at h
  | cons o r ih =>
    intro i j u h
    cases i with
    | zero =>
      cases r with
      | nil =>
        cases j with
        | zero => simp [xs2] at h; exact Or.inl ⟨rfl, h.symm⟩
        | succ j => simp [xs2] at h
      | cons o2 r =>
        cases j with
        | zero => simp [xs2] at h; exact Or.inl ⟨rfl, h.symm⟩
        | succ j =>
          cases j with
          | zero => simp [xs2] at h
          | succ j => exact Or.inr ⟨by omega, by omega, by simpa [xs2] using h, by omega⟩
    | succ n =>
      cases j with
      | zero =>
        cases n with
        | zero =>
          simp [xs2] at h
          obtain ⟨h1, h2⟩ := xcl_get h
          exact Or.inr ⟨by omega, by omega, by simp [h1], fun z => h2 z.2⟩
        | succ n =>
          simp [xs2] at h
          exact Or.inr ⟨by omega, by omega, by simp [h], by omega⟩
      | succ j =>
        have h' : (xs2 v n r)[j]? = some (some u) := by simpa [xs2] using h
        rcases ih n j u h' with ⟨a, b⟩ | ⟨a, b, c, d⟩
        · exact Or.inl ⟨by omega, b⟩
        · exact Or.inr ⟨by omega, by omega, by simpa using c, fun z => d ⟨by omega, z.2⟩⟩
abbrev xLs (G : xG) (M : xM) (L : xL) (ls : Array Slot) : Prop := lv_has ls (xMl M) (xps G 0 L)
theorem xLs.at {G : xG} {M : xM} {L : xL} {ls : Array Slot} (h : xLs G M L ls) {i : Nat} {v : Value} (e : L[i]? = some (some v)) : ls[i]? = some (.val (xv G v)) :=
  h.2.2 (i, xv G v) ((xps_mem G L 0 _).mpr ⟨i, v, e, by simp⟩)
theorem xLs.st1 {G : xG} {M : xM} {L : xL} {ls' : Array Slot} {v : Value} {i : Nat} (h : lv_has ls' (xMl M) ((i, xv G v) :: (xps G 0 L).filter (fun q => !(q.1 == i) && !(q.1 + 1 == i && q.2.category == 2)))) : xLs G M (xs1 v i L) ls' := by
  refine ⟨h.1, h.2.1, fun q hq => ?_⟩
  obtain ⟨n, u, e, rfl⟩ := (xps_mem G _ 0 q).mp hq
  rw [Nat.zero_add]
  rcases xs1_get v L i n u e with ⟨rfl, rfl⟩ | ⟨a, b, c⟩
  · exact h.2.2 _ List.mem_cons_self
  · refine h.2.2 _ (List.mem_cons_of_mem _ (List.mem_filter.mpr ⟨(xps_mem G L 0 _).mpr ⟨n, u, b, by simp⟩, ?_⟩))
    have c' : ¬ (n + 1 = i ∧ (xv G u).category = 2) := by rw [xv_cat]; exact c
    simp only [Bool.and_eq_true, Bool.not_eq_true', beq_eq_false_iff_ne, ne_eq, Bool.and_eq_false_iff]
    exact ⟨a, by by_cases z : n + 1 = i; exact Or.inr (fun y => c' ⟨z, y⟩); exact Or.inl z⟩
theorem xLs.st2 {G : xG} {M : xM} {L : xL} {ls' : Array Slot} {v : Value} {i : Nat} (h : lv_has ls' (xMl M) ((i, xv G v) :: (xps G 0 L).filter (fun q => !(q.1 == i) && (!(q.1 == i + 1) && !(q.1 + 1 == i && q.2.category == 2))))) : xLs G M (xs2 v i L) ls' := by
  refine ⟨h.1, h.2.1, fun q hq => ?_⟩
  obtain ⟨n, u, e, rfl⟩ := (xps_mem G _ 0 q).mp hq
  rw [Nat.zero_add]
  rcases xs2_get v L i n u e with ⟨rfl, rfl⟩ | ⟨a, b, c, d⟩
  · exact h.2.2 _ List.mem_cons_self
  · refine h.2.2 _ (List.mem_cons_of_mem _ (List.mem_filter.mpr ⟨(xps_mem G L 0 _).mpr ⟨n, u, c, by simp⟩, ?_⟩))
    have c' : ¬ (n + 1 = i ∧ (xv G u).category = 2) := by rw [xv_cat]; exact d
    simp only [Bool.and_eq_true, Bool.not_eq_true', beq_eq_false_iff_ne, ne_eq, Bool.and_eq_false_iff]
    exact ⟨a, b, by by_cases z : n + 1 = i; exact Or.inr (fun y => c' ⟨z, y⟩); exact Or.inl z⟩
/-- where a method's body is walked -/
def xCx (G : xG) (M : xM) (p : Program) (R : Room) (s : State) (m : MethodId) (args : Array Value) (meth : Method) (c : Code) : Prop :=
  p.tables.exec = Jvm.exec ∧ c.code = xBy M ∧ c.maxLocals = xMl M ∧ s.vm.findClass (xOwn M) = some m.cls ∧ (∀ w ∈ xW, w.before args s = true) ∧ ((xNm M).name = "<init>" → meth.name = "<init>") ∧ xKn G s ∧ xLv M ≤ R.frames ∧ 200 * xLv M ≤ R.locals
def xRetI (v : Option Value) : Instr → Prop
  | .ireturn => ∃ x, v = some (.int x)
  | .lreturn => ∃ x, v = some (.long x)
  | .areturn => v = some .null ∨ ∃ a, v = some (.ref a)
  | .return_ => v = none
  | _ => False
def xEnd (G : xG) (M : xM) (p : Program) (e : Env) (R : Room) (s : State) (m : MethodId) (args : Array Value) (below : List Frame) (meth : Method) (c : Code) (Cf Sf : Nat) (Q : State → Prop) (v : Option Value) (h' : xH) : Prop :=
  ∀ (i : Instr) (pc : Nat) (ls : Array Slot) (H : Heap) (locs : List Loc), decode (xBy M) pc = .ok (i, 1) → xRetI v i → xHp G h' H → xS G H locs → W p (gL G) e R s m args below meth c H locs Cf Sf Q (F0 m pc ls (v.toList.map (xv G)))
def Ev (G : xG) (M : xM) (pc : Nat) (L : xL) (S : List Value) (h : xH) (v : Option Value) (h' : xH) : Prop :=
  (h.1.1 ≤ h'.1.1 ∧ h.1.2 ≤ h'.1.2) ∧ ∀ (p : Program) (e : Env) (R : Room) (s : State) (m : MethodId) (args : Array Value) (below : List Frame) (meth : Method) (c : Code) (H : Heap) (locs : List Loc) (cells slots Cf Sf : Nat) (Q : State → Prop) (ls : Array Slot),
    xCx G M p R s m args meth c → xHp G h H → xS G H locs → xLs G M L ls → cells + h'.1.1 = Cf + h.1.1 → slots + h'.1.2 = Sf + h.1.2 → Cf ≤ R.cells → Sf ≤ R.slots →
    xEnd G M p e R s m args below meth c Cf Sf Q v h' → W p (gL G) e R s m args below meth c H locs cells slots Q (F0 m pc ls (S.map (xv G)))
/-- from there the method ends with an answer and a heap of which P holds -/
def Go (G : xG) (M : xM) (pc : Nat) (L : xL) (S : List Value) (h : xH) (P : Option Value → xH → Prop) : Prop := ∃ (v : Option Value) (h' : xH), P v h' ∧ Ev G M pc L S h v h'
theorem Go.mono {G : xG} {M : xM} {pc : Nat} {L : xL} {S : List Value} {h : xH} {P P' : Option Value → xH → Prop} (k : Go G M pc L S h P) (f : ∀ v h', P v h' → P' v h') : Go G M pc L S h P' := by
  obtain ⟨v, h', a, b⟩ := k
  exact ⟨v, h', f v h' a, b⟩
/-- a step that leaves the heap -/
theorem Go.go {G : xG} {M : xM} {pc pc2 : Nat} {L L2 : xL} {S S2 : List Value} {h : xH} {P : Option Value → xH → Prop} (k : Go G M pc2 L2 S2 h P)
    (f : ∀ (p : Program) (e : Env) (R : Room) (s : State) (m : MethodId) (args : Array Value) (below : List Frame) (meth : Method) (c : Code) (H : Heap) (locs : List Loc) (cells slots : Nat) (Q : State → Prop) (ls : Array Slot), xCx G M p R s m args meth c → xHp G h H → xS G H locs → xLs G M L ls →
      (∀ ls2 : Array Slot, xLs G M L2 ls2 → W p (gL G) e R s m args below meth c H locs cells slots Q (F0 m pc2 ls2 (S2.map (xv G)))) → W p (gL G) e R s m args below meth c H locs cells slots Q (F0 m pc ls (S.map (xv G)))) : Go G M pc L S h P := by
  obtain ⟨v, h', hP, hm, hE⟩ := k
  refine ⟨v, h', hP, hm, fun p e R s m args below meth c H locs cells slots Cf Sf Q ls C hH hS hL e1 e2 r1 r2 hEnd => ?_⟩
  exact f p e R s m args below meth c H locs cells slots Q ls C hH hS hL (fun ls2 hL2 => hE p e R s m args below meth c H locs cells slots Cf Sf Q ls2 C hH hS hL2 e1 e2 r1 r2 hEnd)
/-- a step that writes one cell -/
theorem Go.put {G : xG} {M : xM} {pc pc2 : Nat} {L : xL} {S S2 : List Value} {h : xH} {P : Option Value → xH → Prop} {a : Nat} {ce : xC} (k : Go G M pc2 L S2 (xput h a ce) P)
    (f : ∀ (p : Program) (e : Env) (R : Room) (s : State) (m : MethodId) (args : Array Value) (below : List Frame) (meth : Method) (c : Code) (H : Heap) (locs : List Loc) (cells slots : Nat) (Q : State → Prop) (ls : Array Slot), xCx G M p R s m args meth c → xHp G h H → xS G H locs → xLs G M L ls →
      (∀ (H1 : Heap) (j : Nat), H1.size = H.size → (∀ q : Nat, q ≠ gB G + a → H1[q]? = H[q]?) → va_at (gD G) vwCl (gB G + a, xe G ce) H1 → W p (gL G) e R s m args below meth c H1 (locs ++ [⟨gB G + a, j⟩]) cells slots Q (F0 m pc2 ls (S2.map (xv G)))) → W p (gL G) e R s m args below meth c H locs cells slots Q (F0 m pc ls (S.map (xv G)))) : Go G M pc L S h P := by
  obtain ⟨v, h', hP, hm, hE⟩ := k
  refine ⟨v, h', hP, hm, fun p e R s m args below meth c H locs cells slots Cf Sf Q ls C hH hS hL e1 e2 r1 r2 hEnd => ?_⟩
  exact f p e R s m args below meth c H locs cells slots Q ls C hH hS hL (fun H1 j z oq he => hE p e R s m args below meth c H1 _ cells slots Cf Sf Q ls C (hH.put z oq he) (hS.put z oq (Nat.le_add_right _ _)) hL e1 e2 r1 r2 hEnd)
/-- a step that makes one cell -/
theorem Go.new {G : xG} {M : xM} {pc pc2 n : Nat} {L : xL} {S S2 : List Value} {h : xH} {P : Option Value → xH → Prop} {ce : xC} (k : Go G M pc2 L S2 (xnew h n ce) P)
    (f : ∀ (p : Program) (e : Env) (R : Room) (s : State) (m : MethodId) (args : Array Value) (below : List Frame) (meth : Method) (c : Code) (H : Heap) (locs : List Loc) (cells slots : Nat) (Q : State → Prop) (ls : Array Slot), xCx G M p R s m args meth c → xHp G h H → xS G H locs → xLs G M L ls → cells + 1 ≤ R.cells → slots + n ≤ R.slots →
      (∀ H1 : Heap, H1.size = H.size + 1 → (∀ q : Nat, q < H.size → H1[q]? = H[q]?) → va_at (gD G) vwCl (gB G + h.1.1, xe G ce) H1 → W p (gL G) e R s m args below meth c H1 locs (cells + 1) (slots + n) Q (F0 m pc2 ls (S2.map (xv G)))) → W p (gL G) e R s m args below meth c H locs cells slots Q (F0 m pc ls (S.map (xv G)))) : Go G M pc L S h P := by
  obtain ⟨v, h', hP, hm, hE⟩ := k
  have hm1 : h.1.1 + 1 ≤ h'.1.1 := hm.1
  have hm2 : h.1.2 + n ≤ h'.1.2 := hm.2
  refine ⟨v, h', hP, ⟨by omega, by omega⟩, fun p e R s m args below meth c H locs cells slots Cf Sf Q ls C hH hS hL e1 e2 r1 r2 hEnd => ?_⟩
  refine f p e R s m args below meth c H locs cells slots Q ls C hH hS hL (by omega) (by omega) (fun H1 z oq he => ?_)
  have hlo := hS.1
  refine hE p e R s m args below meth c H1 locs (cells + 1) (slots + n) Cf Sf Q ls C (hH.new z oq he) ⟨by omega, fun q a b => (oq q (Nat.lt_of_lt_of_le a hlo)).trans (hS.2.1 q a b), hS.2.2⟩ hL ?_ ?_ r1 r2 hEnd
  · show cells + 1 + h'.1.1 = Cf + (h.1.1 + 1)
    omega
  · show slots + n + h'.1.2 = Sf + (h.1.2 + n)
    omega
/-- the end -/
theorem Go.ret {G : xG} {M : xM} {pc : Nat} {L : xL} {h : xH} {P : Option Value → xH → Prop} {v : Option Value} {i : Instr} (d : decode (xBy M) pc = .ok (i, 1)) (hi : xRetI v i) (hP : P v h) : Go G M pc L v.toList h P := by
  refine ⟨v, h, hP, ⟨Nat.le_refl _, Nat.le_refl _⟩, fun p e R s m args below meth c H locs cells slots Cf Sf Q ls C hH hS hL e1 e2 r1 r2 hEnd => ?_⟩
  have f1 : cells = Cf := by omega
  have f2 : slots = Sf := by omega
  subst f1; subst f2
  exact hEnd i pc ls H locs d hi hH hS
/-- the locals at the entry -/
def xent (n : Nat) (A : List Value) : xL := let l := A.flatMap (fun v => if v.category = 2 then [some v, none] else [some v]); l ++ List.replicate (n - l.length) none
theorem xent_mem (G : xG) : ∀ (A : List Value) (i n : Nat) (q : Nat × Value), q ∈ xps G i (A.flatMap (fun v => if v.category = 2 then [some v, none] else [some v]) ++ List.replicate n none) → q ∈ lv_args i (A.map (xv G)) := by
  intro A
  induction A with
  | nil =>
    intro i n q hq
    obtain ⟨k, v, h, -⟩ := (xps_mem G _ i q).mp hq
    have := List.eq_of_mem_replicate (List.mem_of_getElem? (by simpa using h))
    cases this
  | cons a A ih =>
    intro i n q hq
    by_cases hc : a.category = 2
    · rw [List.flatMap_cons, if_pos hc] at hq
      simp only [List.cons_append, List.nil_append, xps, List.mem_cons] at hq
      rw [List.map_cons, lv_args, xv_cat, if_pos hc]
      rcases hq with rfl | hq
      · exact List.mem_cons_self
      · exact List.mem_cons_of_mem _ (ih (i + 1 + 1) n q hq)
    · rw [List.flatMap_cons, if_neg hc] at hq
      simp only [List.cons_append, List.nil_append, xps, List.mem_cons] at hq
      rw [List.map_cons, lv_args, xv_cat, if_neg hc]
      rcases hq with rfl | hq
      · exact List.mem_cons_self
      · exact List.mem_cons_of_mem _ (ih (i + 1) n q hq)
theorem xent_len (G : xG) (A : List Value) : (lg_sl (A.map (xv G))).length = (A.flatMap (fun v => if v.category = 2 then [some v, (none : Option Value)] else [some v])).length := by
  induction A with
  | nil => rfl
  | cons a A ih =>
    rw [List.map_cons, lg_sl, List.flatMap_cons, List.flatMap_cons, List.length_append, List.length_append, xv_cat]
    rw [lg_sl] at ih
    rw [ih]
    by_cases hc : a.category = 2
    · rw [if_pos hc, if_pos hc]; rfl
    · rw [if_neg hc, if_neg hc]; rfl
/-- the answer fits its type -/
def xRok : Option FieldType → Option Value → Prop
  | none, none => True
  | some .long, some (.long _) => True
  | some (.object _), some .null => True
  | some (.object _), some (.ref _) => True
  | some ty, some (.int x) => narrow ty (.int x) = .int x
  | _, _ => False
def xrm (M : xM) (h h' : xH) : Room := { frames := xLv M, cells := h'.1.1 - h.1.1, slots := h'.1.2 - h.1.2, locals := 200 * xLv M }
abbrev xLo (G : xG) (H : Heap) : Prop := gB G ≤ H.size ∧ ∀ q : Nat, q < gB G → ¬ xOut G q → H[q]? = (gH G)[q]?
def xPc (G : xG) (A : List Value) (h : xH) : Array Value → State → Prop := fun a U => a = (A.map (xv G)).toArray ∧ xHp G h U.heap ∧ xLo G U.heap ∧ xKn G U
def xQc (G : xG) (v : Option Value) (h' : xH) : Array Value → State → Outcome → State → Prop := fun _ _ o t => o = .returned (v.map (xv G)) ∧ xHp G h' t.heap ∧ xLo G t.heap
/-- the method's contract, for this heap and this outcome -/
def Mx (G : xG) (M : xM) (A : List Value) (h : xH) (v : Option Value) (h' : xH) : Prop :=
  (h.1.1 ≤ h'.1.1 ∧ h.1.2 ≤ h'.1.2) ∧ Met (gL G) (xNm M) (xws M) (xrm M h h') (xPc G A h) (xQc G v h') (h'.1.1 - h.1.1) (h'.1.2 - h.1.2) (xOut G)
/-- the method, called there, ends with an answer and a heap of which P holds -/
def Ca (G : xG) (M : xM) (A : List Value) (h : xH) (P : Option Value → xH → Prop) : Prop := ∃ (v : Option Value) (h' : xH), P v h' ∧ Mx G M A h v h'
theorem Ca.mono {G : xG} {M : xM} {A : List Value} {h : xH} {P P' : Option Value → xH → Prop} (k : Ca G M A h P) (f : ∀ v h', P v h' → P' v h') : Ca G M A h P' := by
  obtain ⟨v, h', a, b⟩ := k
  exact ⟨v, h', f v h' a, b⟩
theorem Mx.of {G : xG} {M : xM} {A : List Value} {h h' : xH} {v : Option Value} (hp : plainName (xNm M).cls = true) (hn : (A.flatMap (fun v => if v.category = 2 then [some v, (none : Option Value)] else [some v])).length ≤ xMl M) (hr : xRok (xRt M) v) (hE : Ev G M 0 (xent (xMl M) A) [] h v h') : Mx G M A h v h' := by
  refine ⟨hE.1, ?_⟩
  refine Met.ofW (cc := xBy M) (maxL := xMl M) (ret := xRt M) hp rfl ?_
  intro p e s m args below meth c s₁ B hml hv
  obtain ⟨rfl, hH, hLo, hK⟩ := hv
  have hts := atoms_spec (ws := xws M) B.pre
  have hown : s.vm.findClass (xOwn M) = some m.cls := findClass_of_methodNamed B.named
  have hlocks := B.notSynchronized
  have hret := B.returns
  have hl := lv_entry (A.map (xv G)) (n := xMl M) (by rw [xent_len]; exact hn)
  rw [lg_entry_eq]
  generalize (lg_sl (A.map (xv G)) ++ List.replicate (xMl M - (lg_sl (A.map (xv G))).length) Slot.unset).toArray = ls at hl ⊢
  have hL : xLs G M (xent (xMl M) A) ls := ⟨hl.1, hl.2.1, fun q hq => hl.2.2 q (xent_mem G A 0 _ q hq)⟩
  have hle := hE.1
  have hS : xS G s.heap [] := ⟨hLo.1, hLo.2, fun _ hq => by cases hq⟩
  refine hE.2 p e (headSpec (xws M) (xrm M h h')).room s m _ below meth c s.heap [] 0 0 (h'.1.1 - h.1.1) (h'.1.2 - h.1.2) _ ls ⟨B.exec, B.bytes, hml, hown, fun w hw => hts w (List.mem_cons_of_mem _ hw), fun h9 => (name_of_methodNamed B.named B.method).1.trans h9, hK, Nat.le_refl _, Nat.le_refl _⟩ hH hS hL (by omega) (by omega) (Nat.le_refl _) (Nat.le_refl _) ?_
  intro i pc ls' H locs d hi hH' hS'
  have hq : ∀ t : State, t.heap = H → s.WarmedH t.vm → xQc G v h' (A.map (xv G)).toArray s (.returned (v.map (xv G))) t := fun t ht _ => ⟨rfl, by rw [ht]; exact hH', by rw [ht]; exact ⟨hS'.1, hS'.2.1⟩⟩
  have ret_i : ∀ x, v = some (.int x) → i = .ireturn → W p (gL G) e (headSpec (xws M) (xrm M h h')).room s m (A.map (xv G)).toArray below meth c H locs (h'.1.1 - h.1.1) (h'.1.2 - h.1.2) (MQ below (xQc G v h') (A.map (xv G)).toArray s (h'.1.1 - h.1.1) (h'.1.2 - h.1.2) (xOut G)) (F0 m pc ls' (v.toList.map (xv G))) := by
    intro x ev ei
    subst ev; subst ei
    cases hR : xRt M with
    | none => rw [hR] at hr; exact hr.elim
    | some ty =>
      rw [hR] at hr hret
      have hn : narrow ty (.int x) = .int x := by
        cases ty <;> first | exact hr | exact hr.elim
      exact W.zret (v := x) B.exec B.bytes hret hn hq hS'.2.2 d
  cases i <;> try exact hi.elim
  case ireturn => obtain ⟨x, ev⟩ := hi; exact ret_i x ev rfl
  case lreturn =>
    obtain ⟨x, ev⟩ := hi
    subst ev
    have hR : xRt M = some .long := by
      cases hR : xRt M with
      | none => rw [hR] at hr; exact hr.elim
      | some ty => rw [hR] at hr; cases ty <;> first | rfl | exact hr.elim
    rw [hR] at hret
    exact W.lret (v := x) B.exec B.bytes hret hq hS'.2.2 d
  case areturn =>
    have hR : ∃ n, xRt M = some (.object n) := by
      cases hR : xRt M with
      | none => rw [hR] at hr; rcases hi with rfl | ⟨a, rfl⟩ <;> exact hr.elim
      | some ty => rw [hR] at hr; rcases hi with rfl | ⟨a, rfl⟩ <;> cases ty <;> first | exact ⟨_, rfl⟩ | exact hr.elim
    obtain ⟨n, hR⟩ := hR
    rw [hR] at hret
    rcases hi with rfl | ⟨a, rfl⟩
    · exact W.aret (v := .null) (rt := .object n) B.exec B.bytes hret (Or.inl ⟨_, rfl⟩) (Or.inl rfl) hq hS'.2.2 d
    · exact W.aret (v := .ref (gB G + a)) (rt := .object n) B.exec B.bytes hret (Or.inl ⟨_, rfl⟩) (Or.inr ⟨_, rfl⟩) hq hS'.2.2 d
  case return_ =>
    have ev : v = none := hi
    subst ev
    have hR : xRt M = none := by
      cases hR : xRt M with
      | none => rfl
      | some ty => rw [hR] at hr; cases ty <;> exact hr.elim
    rw [hR] at hret
    exact W.vret B.exec B.bytes hret hq hS'.2.2 d
theorem Ca.of {G : xG} {M : xM} {A : List Value} {h : xH} {P : Option Value → xH → Prop} (hp : plainName (xNm M).cls = true) (hn : (A.flatMap (fun v => if v.category = 2 then [some v, (none : Option Value)] else [some v])).length ≤ xMl M) (k : Go G M 0 (xent (xMl M) A) [] h (fun v h' => xRok (xRt M) v ∧ P v h')) : Ca G M A h P := by
  obtain ⟨v, h', ⟨hr, hP⟩, hE⟩ := k
  exact ⟨v, h', hP, Mx.of hp hn hr hE⟩
end
section
theorem go_iconst {G : xG} {M : xM} {pc pc' : Nat} {L : xL} {S : List Value} {h : xH} {P : Option Value → xH → Prop} {n : Int} {v : Int32} (d : decode (xBy M) pc = .ok (.iconst n, 1)) (e : pc + 1 = pc') (hv : Int32.ofInt n = v) (k : Go G M pc' L (.int v :: S) h P) : Go G M pc L (S) h P :=
  k.go (fun _ _ _ _ _ _ _ _ _ _ _ _ _ _ _ C hH hS hL w => by subst e; exact lv_iconst C.1 C.2.1 d hv (w _ hL))
theorem go_bipush {G : xG} {M : xM} {pc pc' : Nat} {L : xL} {S : List Value} {h : xH} {P : Option Value → xH → Prop} {n : Int} {v : Int32} (d : decode (xBy M) pc = .ok (.bipush n, 2)) (e : pc + 2 = pc') (hv : (Int8.ofInt n).toInt32 = v) (k : Go G M pc' L (.int v :: S) h P) : Go G M pc L (S) h P :=
  k.go (fun _ _ _ _ _ _ _ _ _ _ _ _ _ _ _ C hH hS hL w => by subst e; exact lv_bipush C.1 C.2.1 d hv (w _ hL))
theorem go_sipush {G : xG} {M : xM} {pc pc' : Nat} {L : xL} {S : List Value} {h : xH} {P : Option Value → xH → Prop} {n : Int} {v : Int32} (d : decode (xBy M) pc = .ok (.sipush n, 3)) (e : pc + 3 = pc') (hv : (Int16.ofInt n).toInt32 = v) (k : Go G M pc' L (.int v :: S) h P) : Go G M pc L (S) h P :=
  k.go (fun _ _ _ _ _ _ _ _ _ _ _ _ _ _ _ C hH hS hL w => by subst e; exact lv_sipush C.1 C.2.1 d hv (w _ hL))
theorem go_lconst {G : xG} {M : xM} {pc pc' : Nat} {L : xL} {S : List Value} {h : xH} {P : Option Value → xH → Prop} {n : Fin 2} {v : Int64} (d : decode (xBy M) pc = .ok (.lconst n, 1)) (e : pc + 1 = pc') (hv : Int64.ofNat (n : Nat) = v) (k : Go G M pc' L (.long v :: S) h P) : Go G M pc L (S) h P :=
  k.go (fun _ _ _ _ _ _ _ _ _ _ _ _ _ _ _ C hH hS hL w => by subst e; exact lv_lconst C.1 C.2.1 d hv (w _ hL))
theorem go_iload_n {G : xG} {M : xM} {pc pc' : Nat} {L : xL} {S : List Value} {h : xH} {P : Option Value → xH → Prop} {k0 : Fin 4} {i : Nat} {x : Int32} (d : decode (xBy M) pc = .ok (.iload_n k0, 1)) (e : pc + 1 = pc') (hi : (k0 : Nat) = i) (hl : L[i]? = some (some (.int x))) (k : Go G M pc' L (.int x :: S) h P) : Go G M pc L (S) h P :=
  k.go (fun _ _ _ _ _ _ _ _ _ _ _ _ _ _ _ C hH hS hL w => by subst e; exact lv_iload_n C.1 C.2.1 d hi (hL.at hl) (w _ hL))
theorem go_iload {G : xG} {M : xM} {pc pc' : Nat} {L : xL} {S : List Value} {h : xH} {P : Option Value → xH → Prop} {i : Nat} {x : Int32} (d : decode (xBy M) pc = .ok (.iload i, 2)) (e : pc + 2 = pc') (hl : L[i]? = some (some (.int x))) (k : Go G M pc' L (.int x :: S) h P) : Go G M pc L (S) h P :=
  k.go (fun _ _ _ _ _ _ _ _ _ _ _ _ _ _ _ C hH hS hL w => by subst e; exact lv_iload C.1 C.2.1 d (hL.at hl) (w _ hL))
theorem go_lload_n {G : xG} {M : xM} {pc pc' : Nat} {L : xL} {S : List Value} {h : xH} {P : Option Value → xH → Prop} {k0 : Fin 4} {i : Nat} {x : Int64} (d : decode (xBy M) pc = .ok (.lload_n k0, 1)) (e : pc + 1 = pc') (hi : (k0 : Nat) = i) (hl : L[i]? = some (some (.long x))) (k : Go G M pc' L (.long x :: S) h P) : Go G M pc L (S) h P :=
  k.go (fun _ _ _ _ _ _ _ _ _ _ _ _ _ _ _ C hH hS hL w => by subst e; exact lv_lload_n C.1 C.2.1 d hi (hL.at hl) (w _ hL))
theorem go_lload {G : xG} {M : xM} {pc pc' : Nat} {L : xL} {S : List Value} {h : xH} {P : Option Value → xH → Prop} {i : Nat} {x : Int64} (d : decode (xBy M) pc = .ok (.lload i, 2)) (e : pc + 2 = pc') (hl : L[i]? = some (some (.long x))) (k : Go G M pc' L (.long x :: S) h P) : Go G M pc L (S) h P :=
  k.go (fun _ _ _ _ _ _ _ _ _ _ _ _ _ _ _ C hH hS hL w => by subst e; exact lv_lload C.1 C.2.1 d (hL.at hl) (w _ hL))
theorem go_aload_n {G : xG} {M : xM} {pc pc' : Nat} {L : xL} {S : List Value} {h : xH} {P : Option Value → xH → Prop} {k0 : Fin 4} {i : Nat} {x : Nat} (d : decode (xBy M) pc = .ok (.aload_n k0, 1)) (e : pc + 1 = pc') (hi : (k0 : Nat) = i) (hl : L[i]? = some (some (.ref x))) (k : Go G M pc' L (.ref x :: S) h P) : Go G M pc L (S) h P :=
  k.go (fun _ _ _ _ _ _ _ _ _ _ _ _ _ _ _ C hH hS hL w => by subst e; exact lv_aload_n C.1 C.2.1 d hi (hL.at hl) (w _ hL))
theorem go_aload {G : xG} {M : xM} {pc pc' : Nat} {L : xL} {S : List Value} {h : xH} {P : Option Value → xH → Prop} {i : Nat} {x : Nat} (d : decode (xBy M) pc = .ok (.aload i, 2)) (e : pc + 2 = pc') (hl : L[i]? = some (some (.ref x))) (k : Go G M pc' L (.ref x :: S) h P) : Go G M pc L (S) h P :=
  k.go (fun _ _ _ _ _ _ _ _ _ _ _ _ _ _ _ C hH hS hL w => by subst e; exact lv_aload C.1 C.2.1 d (hL.at hl) (w _ hL))
theorem go_aloadX_n {G : xG} {M : xM} {pc pc' : Nat} {L : xL} {S : List Value} {h : xH} {P : Option Value → xH → Prop} {k0 : Fin 4} {i : Nat} {x : Nat} (d : decode (xBy M) pc = .ok (.aload_n k0, 1)) (e : pc + 1 = pc') (hi : (k0 : Nat) = i) (hl : L[i]? = some (some (.retAddr x))) (k : Go G M pc' L (.retAddr x :: S) h P) : Go G M pc L (S) h P :=
  k.go (fun _ _ _ _ _ _ _ _ _ _ _ _ _ _ _ C hH hS hL w => by subst e; exact lv_aload_n C.1 C.2.1 d hi (hL.at hl) (w _ hL))
theorem go_aloadX {G : xG} {M : xM} {pc pc' : Nat} {L : xL} {S : List Value} {h : xH} {P : Option Value → xH → Prop} {i : Nat} {x : Nat} (d : decode (xBy M) pc = .ok (.aload i, 2)) (e : pc + 2 = pc') (hl : L[i]? = some (some (.retAddr x))) (k : Go G M pc' L (.retAddr x :: S) h P) : Go G M pc L (S) h P :=
  k.go (fun _ _ _ _ _ _ _ _ _ _ _ _ _ _ _ C hH hS hL w => by subst e; exact lv_aload C.1 C.2.1 d (hL.at hl) (w _ hL))
theorem go_aload_nN {G : xG} {M : xM} {pc pc' : Nat} {L : xL} {S : List Value} {h : xH} {P : Option Value → xH → Prop} {k0 : Fin 4} {i : Nat} (d : decode (xBy M) pc = .ok (.aload_n k0, 1)) (e : pc + 1 = pc') (hi : (k0 : Nat) = i) (hl : L[i]? = some (some .null)) (k : Go G M pc' L (.null :: S) h P) : Go G M pc L (S) h P :=
  k.go (fun _ _ _ _ _ _ _ _ _ _ _ _ _ _ _ C hH hS hL w => by subst e; exact lv_aload_nN C.1 C.2.1 d hi (hL.at hl) (w _ hL))
theorem go_aloadN {G : xG} {M : xM} {pc pc' : Nat} {L : xL} {S : List Value} {h : xH} {P : Option Value → xH → Prop} {i : Nat} (d : decode (xBy M) pc = .ok (.aload i, 2)) (e : pc + 2 = pc') (hl : L[i]? = some (some .null)) (k : Go G M pc' L (.null :: S) h P) : Go G M pc L (S) h P :=
  k.go (fun _ _ _ _ _ _ _ _ _ _ _ _ _ _ _ C hH hS hL w => by subst e; exact lv_aloadN C.1 C.2.1 d (hL.at hl) (w _ hL))
theorem go_istore_n {G : xG} {M : xM} {pc pc' : Nat} {L : xL} {S : List Value} {h : xH} {P : Option Value → xH → Prop} {L' : xL} {k0 : Fin 4} {i : Nat} {x : Int32} (d : decode (xBy M) pc = .ok (.istore_n k0, 1)) (e : pc + 1 = pc') (hi : (k0 : Nat) = i) (hn : i < xMl M) (hl : xs1 (.int x) i L = L') (k : Go G M pc' L' S h P) : Go G M pc L (.int x :: S) h P :=
  k.go (fun _ _ _ _ _ _ _ _ _ _ _ _ _ _ _ C hH hS hL w => by subst e; subst hl; exact lv_istore_n C.1 C.2.1 d hi hL hn rfl (fun ls' h' => w ls' (xLs.st1 (v := .int x) h')))
theorem go_istore {G : xG} {M : xM} {pc pc' : Nat} {L : xL} {S : List Value} {h : xH} {P : Option Value → xH → Prop} {L' : xL} {i : Nat} {x : Int32} (d : decode (xBy M) pc = .ok (.istore i, 2)) (e : pc + 2 = pc') (hn : i < xMl M) (hl : xs1 (.int x) i L = L') (k : Go G M pc' L' S h P) : Go G M pc L (.int x :: S) h P :=
  k.go (fun _ _ _ _ _ _ _ _ _ _ _ _ _ _ _ C hH hS hL w => by subst e; subst hl; exact lv_istore C.1 C.2.1 d hL hn rfl (fun ls' h' => w ls' (xLs.st1 (v := .int x) h')))
theorem go_lstore_n {G : xG} {M : xM} {pc pc' : Nat} {L : xL} {S : List Value} {h : xH} {P : Option Value → xH → Prop} {L' : xL} {k0 : Fin 4} {i : Nat} {x : Int64} (d : decode (xBy M) pc = .ok (.lstore_n k0, 1)) (e : pc + 1 = pc') (hi : (k0 : Nat) = i) (hn : i + 1 < xMl M) (hl : xs2 (.long x) i L = L') (k : Go G M pc' L' S h P) : Go G M pc L (.long x :: S) h P :=
  k.go (fun _ _ _ _ _ _ _ _ _ _ _ _ _ _ _ C hH hS hL w => by subst e; subst hl; exact lv_lstore_n C.1 C.2.1 d hi hL hn rfl (fun ls' h' => w ls' (xLs.st2 (v := .long x) h')))
theorem go_lstore {G : xG} {M : xM} {pc pc' : Nat} {L : xL} {S : List Value} {h : xH} {P : Option Value → xH → Prop} {L' : xL} {i : Nat} {x : Int64} (d : decode (xBy M) pc = .ok (.lstore i, 2)) (e : pc + 2 = pc') (hn : i + 1 < xMl M) (hl : xs2 (.long x) i L = L') (k : Go G M pc' L' S h P) : Go G M pc L (.long x :: S) h P :=
  k.go (fun _ _ _ _ _ _ _ _ _ _ _ _ _ _ _ C hH hS hL w => by subst e; subst hl; exact lv_lstore C.1 C.2.1 d hL hn rfl (fun ls' h' => w ls' (xLs.st2 (v := .long x) h')))
theorem go_astore_n {G : xG} {M : xM} {pc pc' : Nat} {L : xL} {S : List Value} {h : xH} {P : Option Value → xH → Prop} {L' : xL} {k0 : Fin 4} {i : Nat} {x : Nat} (d : decode (xBy M) pc = .ok (.astore_n k0, 1)) (e : pc + 1 = pc') (hi : (k0 : Nat) = i) (hn : i < xMl M) (hl : xs1 (.ref x) i L = L') (k : Go G M pc' L' S h P) : Go G M pc L (.ref x :: S) h P :=
  k.go (fun _ _ _ _ _ _ _ _ _ _ _ _ _ _ _ C hH hS hL w => by subst e; subst hl; exact lv_astore_n C.1 C.2.1 d hi hL hn rfl (fun ls' h' => w ls' (xLs.st1 (v := .ref x) h')))
theorem go_astore {G : xG} {M : xM} {pc pc' : Nat} {L : xL} {S : List Value} {h : xH} {P : Option Value → xH → Prop} {L' : xL} {i : Nat} {x : Nat} (d : decode (xBy M) pc = .ok (.astore i, 2)) (e : pc + 2 = pc') (hn : i < xMl M) (hl : xs1 (.ref x) i L = L') (k : Go G M pc' L' S h P) : Go G M pc L (.ref x :: S) h P :=
  k.go (fun _ _ _ _ _ _ _ _ _ _ _ _ _ _ _ C hH hS hL w => by subst e; subst hl; exact lv_astore C.1 C.2.1 d hL hn rfl (fun ls' h' => w ls' (xLs.st1 (v := .ref x) h')))
theorem go_astoreX_n {G : xG} {M : xM} {pc pc' : Nat} {L : xL} {S : List Value} {h : xH} {P : Option Value → xH → Prop} {L' : xL} {k0 : Fin 4} {i : Nat} {x : Nat} (d : decode (xBy M) pc = .ok (.astore_n k0, 1)) (e : pc + 1 = pc') (hi : (k0 : Nat) = i) (hn : i < xMl M) (hl : xs1 (.retAddr x) i L = L') (k : Go G M pc' L' S h P) : Go G M pc L (.retAddr x :: S) h P :=
  k.go (fun _ _ _ _ _ _ _ _ _ _ _ _ _ _ _ C hH hS hL w => by subst e; subst hl; exact lv_astore_n C.1 C.2.1 d hi hL hn rfl (fun ls' h' => w ls' (xLs.st1 (v := .retAddr x) h')))
theorem go_astoreX {G : xG} {M : xM} {pc pc' : Nat} {L : xL} {S : List Value} {h : xH} {P : Option Value → xH → Prop} {L' : xL} {i : Nat} {x : Nat} (d : decode (xBy M) pc = .ok (.astore i, 2)) (e : pc + 2 = pc') (hn : i < xMl M) (hl : xs1 (.retAddr x) i L = L') (k : Go G M pc' L' S h P) : Go G M pc L (.retAddr x :: S) h P :=
  k.go (fun _ _ _ _ _ _ _ _ _ _ _ _ _ _ _ C hH hS hL w => by subst e; subst hl; exact lv_astore C.1 C.2.1 d hL hn rfl (fun ls' h' => w ls' (xLs.st1 (v := .retAddr x) h')))
theorem go_astore_nN {G : xG} {M : xM} {pc pc' : Nat} {L : xL} {S : List Value} {h : xH} {P : Option Value → xH → Prop} {L' : xL} {k0 : Fin 4} {i : Nat} (d : decode (xBy M) pc = .ok (.astore_n k0, 1)) (e : pc + 1 = pc') (hi : (k0 : Nat) = i) (hn : i < xMl M) (hl : xs1 (.null) i L = L') (k : Go G M pc' L' S h P) : Go G M pc L (.null :: S) h P :=
  k.go (fun _ _ _ _ _ _ _ _ _ _ _ _ _ _ _ C hH hS hL w => by subst e; subst hl; exact lv_astore_nN C.1 C.2.1 d hi hL hn rfl (fun ls' h' => w ls' (xLs.st1 (v := .null) h')))
theorem go_astoreN {G : xG} {M : xM} {pc pc' : Nat} {L : xL} {S : List Value} {h : xH} {P : Option Value → xH → Prop} {L' : xL} {i : Nat} (d : decode (xBy M) pc = .ok (.astore i, 2)) (e : pc + 2 = pc') (hn : i < xMl M) (hl : xs1 (.null) i L = L') (k : Go G M pc' L' S h P) : Go G M pc L (.null :: S) h P :=
  k.go (fun _ _ _ _ _ _ _ _ _ _ _ _ _ _ _ C hH hS hL w => by subst e; subst hl; exact lv_astoreN C.1 C.2.1 d hL hn rfl (fun ls' h' => w ls' (xLs.st1 (v := .null) h')))
theorem go_iinc {G : xG} {M : xM} {pc pc' : Nat} {L : xL} {S : List Value} {h : xH} {P : Option Value → xH → Prop} {L' : xL} {i : Nat} {n : Int} {x v : Int32} (d : decode (xBy M) pc = .ok (.iinc i n, 3)) (e : pc + 3 = pc') (hl : L[i]? = some (some (.int x))) (hv : x + Int32.ofInt n = v) (hn : i < xMl M) (hs : xs1 (.int v) i L = L') (k : Go G M pc' L' S h P) : Go G M pc L S h P :=
  k.go (fun _ _ _ _ _ _ _ _ _ _ _ _ _ _ _ C hH hS hL w => by
    subst e; subst hs
    obtain ⟨j, hj⟩ := List.getElem?_of_mem ((xps_mem G L 0 (i, xv G (.int x))).mpr ⟨i, .int x, hl, by simp⟩)
    exact lv_iinc C.1 C.2.1 d hL hj hv hn rfl (fun ls' h' => w ls' (xLs.st1 (v := .int v) h')))
theorem go_iadd {G : xG} {M : xM} {pc pc' : Nat} {L : xL} {S : List Value} {h : xH} {P : Option Value → xH → Prop} {x y : Int32} (d : decode (xBy M) pc = .ok (.iadd, 1)) (e : pc + 1 = pc')  (k : Go G M pc' L (.int (x + y) :: S) h P) : Go G M pc L (.int y :: .int x :: S) h P :=
  k.go (fun _ _ _ _ _ _ _ _ _ _ _ _ _ _ _ C hH hS hL w => by subst e; exact lv_iadd C.1 C.2.1 d  (w _ hL))
theorem go_isub {G : xG} {M : xM} {pc pc' : Nat} {L : xL} {S : List Value} {h : xH} {P : Option Value → xH → Prop} {x y : Int32} (d : decode (xBy M) pc = .ok (.isub, 1)) (e : pc + 1 = pc')  (k : Go G M pc' L (.int (x - y) :: S) h P) : Go G M pc L (.int y :: .int x :: S) h P :=
  k.go (fun _ _ _ _ _ _ _ _ _ _ _ _ _ _ _ C hH hS hL w => by subst e; exact lv_isub C.1 C.2.1 d  (w _ hL))
theorem go_imul {G : xG} {M : xM} {pc pc' : Nat} {L : xL} {S : List Value} {h : xH} {P : Option Value → xH → Prop} {x y : Int32} (d : decode (xBy M) pc = .ok (.imul, 1)) (e : pc + 1 = pc')  (k : Go G M pc' L (.int (x * y) :: S) h P) : Go G M pc L (.int y :: .int x :: S) h P :=
  k.go (fun _ _ _ _ _ _ _ _ _ _ _ _ _ _ _ C hH hS hL w => by subst e; exact lv_imul C.1 C.2.1 d  (w _ hL))
theorem go_iand {G : xG} {M : xM} {pc pc' : Nat} {L : xL} {S : List Value} {h : xH} {P : Option Value → xH → Prop} {x y : Int32} (d : decode (xBy M) pc = .ok (.iand, 1)) (e : pc + 1 = pc')  (k : Go G M pc' L (.int (x &&& y) :: S) h P) : Go G M pc L (.int y :: .int x :: S) h P :=
  k.go (fun _ _ _ _ _ _ _ _ _ _ _ _ _ _ _ C hH hS hL w => by subst e; exact lv_iand C.1 C.2.1 d  (w _ hL))
theorem go_ior {G : xG} {M : xM} {pc pc' : Nat} {L : xL} {S : List Value} {h : xH} {P : Option Value → xH → Prop} {x y : Int32} (d : decode (xBy M) pc = .ok (.ior, 1)) (e : pc + 1 = pc')  (k : Go G M pc' L (.int (x ||| y) :: S) h P) : Go G M pc L (.int y :: .int x :: S) h P :=
  k.go (fun _ _ _ _ _ _ _ _ _ _ _ _ _ _ _ C hH hS hL w => by subst e; exact lv_ior C.1 C.2.1 d  (w _ hL))
theorem go_ixor {G : xG} {M : xM} {pc pc' : Nat} {L : xL} {S : List Value} {h : xH} {P : Option Value → xH → Prop} {x y : Int32} (d : decode (xBy M) pc = .ok (.ixor, 1)) (e : pc + 1 = pc')  (k : Go G M pc' L (.int (x ^^^ y) :: S) h P) : Go G M pc L (.int y :: .int x :: S) h P :=
  k.go (fun _ _ _ _ _ _ _ _ _ _ _ _ _ _ _ C hH hS hL w => by subst e; exact lv_ixor C.1 C.2.1 d  (w _ hL))
theorem go_idiv {G : xG} {M : xM} {pc pc' : Nat} {L : xL} {S : List Value} {h : xH} {P : Option Value → xH → Prop} {x y : Int32} (d : decode (xBy M) pc = .ok (.idiv, 1)) (e : pc + 1 = pc') (hne : ¬ y = 0) (k : Go G M pc' L (.int (x / y) :: S) h P) : Go G M pc L (.int y :: .int x :: S) h P :=
  k.go (fun _ _ _ _ _ _ _ _ _ _ _ _ _ _ _ C hH hS hL w => by subst e; exact lv_idiv C.1 C.2.1 d hne (w _ hL))
theorem go_irem {G : xG} {M : xM} {pc pc' : Nat} {L : xL} {S : List Value} {h : xH} {P : Option Value → xH → Prop} {x y : Int32} (d : decode (xBy M) pc = .ok (.irem, 1)) (e : pc + 1 = pc') (hne : ¬ y = 0) (k : Go G M pc' L (.int (x - x / y * y) :: S) h P) : Go G M pc L (.int y :: .int x :: S) h P :=
  k.go (fun _ _ _ _ _ _ _ _ _ _ _ _ _ _ _ C hH hS hL w => by subst e; exact lv_irem C.1 C.2.1 d hne (w _ hL))
theorem go_ineg {G : xG} {M : xM} {pc pc' : Nat} {L : xL} {S : List Value} {h : xH} {P : Option Value → xH → Prop} {x : Int32} (d : decode (xBy M) pc = .ok (.ineg, 1)) (e : pc + 1 = pc')  (k : Go G M pc' L (.int (-x) :: S) h P) : Go G M pc L (.int x :: S) h P :=
  k.go (fun _ _ _ _ _ _ _ _ _ _ _ _ _ _ _ C hH hS hL w => by subst e; exact lv_ineg C.1 C.2.1 d  (w _ hL))
theorem go_ladd {G : xG} {M : xM} {pc pc' : Nat} {L : xL} {S : List Value} {h : xH} {P : Option Value → xH → Prop} {x y : Int64} (d : decode (xBy M) pc = .ok (.ladd, 1)) (e : pc + 1 = pc')  (k : Go G M pc' L (.long (x + y) :: S) h P) : Go G M pc L (.long y :: .long x :: S) h P :=
  k.go (fun _ _ _ _ _ _ _ _ _ _ _ _ _ _ _ C hH hS hL w => by subst e; exact lv_ladd C.1 C.2.1 d  (w _ hL))
theorem go_lsub {G : xG} {M : xM} {pc pc' : Nat} {L : xL} {S : List Value} {h : xH} {P : Option Value → xH → Prop} {x y : Int64} (d : decode (xBy M) pc = .ok (.lsub, 1)) (e : pc + 1 = pc')  (k : Go G M pc' L (.long (x - y) :: S) h P) : Go G M pc L (.long y :: .long x :: S) h P :=
  k.go (fun _ _ _ _ _ _ _ _ _ _ _ _ _ _ _ C hH hS hL w => by subst e; exact lv_lsub C.1 C.2.1 d  (w _ hL))
theorem go_lmul {G : xG} {M : xM} {pc pc' : Nat} {L : xL} {S : List Value} {h : xH} {P : Option Value → xH → Prop} {x y : Int64} (d : decode (xBy M) pc = .ok (.lmul, 1)) (e : pc + 1 = pc')  (k : Go G M pc' L (.long (x * y) :: S) h P) : Go G M pc L (.long y :: .long x :: S) h P :=
  k.go (fun _ _ _ _ _ _ _ _ _ _ _ _ _ _ _ C hH hS hL w => by subst e; exact lv_lmul C.1 C.2.1 d  (w _ hL))
theorem go_land {G : xG} {M : xM} {pc pc' : Nat} {L : xL} {S : List Value} {h : xH} {P : Option Value → xH → Prop} {x y : Int64} (d : decode (xBy M) pc = .ok (.land, 1)) (e : pc + 1 = pc')  (k : Go G M pc' L (.long (x &&& y) :: S) h P) : Go G M pc L (.long y :: .long x :: S) h P :=
  k.go (fun _ _ _ _ _ _ _ _ _ _ _ _ _ _ _ C hH hS hL w => by subst e; exact lv_land C.1 C.2.1 d  (w _ hL))
theorem go_lor {G : xG} {M : xM} {pc pc' : Nat} {L : xL} {S : List Value} {h : xH} {P : Option Value → xH → Prop} {x y : Int64} (d : decode (xBy M) pc = .ok (.lor, 1)) (e : pc + 1 = pc')  (k : Go G M pc' L (.long (x ||| y) :: S) h P) : Go G M pc L (.long y :: .long x :: S) h P :=
  k.go (fun _ _ _ _ _ _ _ _ _ _ _ _ _ _ _ C hH hS hL w => by subst e; exact lv_lor C.1 C.2.1 d  (w _ hL))
theorem go_lxor {G : xG} {M : xM} {pc pc' : Nat} {L : xL} {S : List Value} {h : xH} {P : Option Value → xH → Prop} {x y : Int64} (d : decode (xBy M) pc = .ok (.lxor, 1)) (e : pc + 1 = pc')  (k : Go G M pc' L (.long (x ^^^ y) :: S) h P) : Go G M pc L (.long y :: .long x :: S) h P :=
  k.go (fun _ _ _ _ _ _ _ _ _ _ _ _ _ _ _ C hH hS hL w => by subst e; exact lv_lxor C.1 C.2.1 d  (w _ hL))
theorem go_ldiv {G : xG} {M : xM} {pc pc' : Nat} {L : xL} {S : List Value} {h : xH} {P : Option Value → xH → Prop} {x y : Int64} (d : decode (xBy M) pc = .ok (.ldiv, 1)) (e : pc + 1 = pc') (hne : ¬ y = 0) (k : Go G M pc' L (.long (x / y) :: S) h P) : Go G M pc L (.long y :: .long x :: S) h P :=
  k.go (fun _ _ _ _ _ _ _ _ _ _ _ _ _ _ _ C hH hS hL w => by subst e; exact lv_ldiv C.1 C.2.1 d hne (w _ hL))
theorem go_lrem {G : xG} {M : xM} {pc pc' : Nat} {L : xL} {S : List Value} {h : xH} {P : Option Value → xH → Prop} {x y : Int64} (d : decode (xBy M) pc = .ok (.lrem, 1)) (e : pc + 1 = pc') (hne : ¬ y = 0) (k : Go G M pc' L (.long (x - x / y * y) :: S) h P) : Go G M pc L (.long y :: .long x :: S) h P :=
  k.go (fun _ _ _ _ _ _ _ _ _ _ _ _ _ _ _ C hH hS hL w => by subst e; exact lv_lrem C.1 C.2.1 d hne (w _ hL))
theorem go_lneg {G : xG} {M : xM} {pc pc' : Nat} {L : xL} {S : List Value} {h : xH} {P : Option Value → xH → Prop} {x : Int64} (d : decode (xBy M) pc = .ok (.lneg, 1)) (e : pc + 1 = pc')  (k : Go G M pc' L (.long (-x) :: S) h P) : Go G M pc L (.long x :: S) h P :=
  k.go (fun _ _ _ _ _ _ _ _ _ _ _ _ _ _ _ C hH hS hL w => by subst e; exact lv_lneg C.1 C.2.1 d  (w _ hL))
theorem go_ishl {G : xG} {M : xM} {pc pc' : Nat} {L : xL} {S : List Value} {h : xH} {P : Option Value → xH → Prop} {x y : Int32} (d : decode (xBy M) pc = .ok (.ishl, 1)) (e : pc + 1 = pc')  (k : Go G M pc' L (.int (x <<< (y &&& 31)) :: S) h P) : Go G M pc L (.int y :: .int x :: S) h P :=
  k.go (fun _ _ _ _ _ _ _ _ _ _ _ _ _ _ _ C hH hS hL w => by subst e; exact lv_ishl C.1 C.2.1 d  (w _ hL))
theorem go_ishr {G : xG} {M : xM} {pc pc' : Nat} {L : xL} {S : List Value} {h : xH} {P : Option Value → xH → Prop} {x y : Int32} (d : decode (xBy M) pc = .ok (.ishr, 1)) (e : pc + 1 = pc')  (k : Go G M pc' L (.int (x >>> (y &&& 31)) :: S) h P) : Go G M pc L (.int y :: .int x :: S) h P :=
  k.go (fun _ _ _ _ _ _ _ _ _ _ _ _ _ _ _ C hH hS hL w => by subst e; exact lv_ishr C.1 C.2.1 d  (w _ hL))
theorem go_iushr {G : xG} {M : xM} {pc pc' : Nat} {L : xL} {S : List Value} {h : xH} {P : Option Value → xH → Prop} {x y v : Int32} (d : decode (xBy M) pc = .ok (.iushr, 1)) (e : pc + 1 = pc') (hv : (x.toUInt32 >>> (y.toUInt32 &&& Int32.toUInt32 31)).toInt32 = v) (k : Go G M pc' L (.int v :: S) h P) : Go G M pc L (.int y :: .int x :: S) h P :=
  k.go (fun _ _ _ _ _ _ _ _ _ _ _ _ _ _ _ C hH hS hL w => by subst e; exact lv_iushr C.1 C.2.1 d hv (w _ hL))
theorem go_lushr {G : xG} {M : xM} {pc pc' : Nat} {L : xL} {S : List Value} {h : xH} {P : Option Value → xH → Prop} {x v : Int64} {y : Int32} (d : decode (xBy M) pc = .ok (.lushr, 1)) (e : pc + 1 = pc') (hv : (x.toUInt64 >>> (y.toInt64.toUInt64 &&& Int64.toUInt64 63)).toInt64 = v) (k : Go G M pc' L (.long v :: S) h P) : Go G M pc L (.int y :: .long x :: S) h P :=
  k.go (fun _ _ _ _ _ _ _ _ _ _ _ _ _ _ _ C hH hS hL w => by subst e; exact lv_lushr C.1 C.2.1 d hv (w _ hL))
theorem go_lshl {G : xG} {M : xM} {pc pc' : Nat} {L : xL} {S : List Value} {h : xH} {P : Option Value → xH → Prop} {x v : Int64} {y : Int32} (d : decode (xBy M) pc = .ok (.lshl, 1)) (e : pc + 1 = pc') (hv : x <<< (y.toInt64 &&& 63) = v) (k : Go G M pc' L (.long v :: S) h P) : Go G M pc L (.int y :: .long x :: S) h P :=
  k.go (fun _ _ _ _ _ _ _ _ _ _ _ _ _ _ _ C hH hS hL w => by subst e; exact lv_lshl C.1 C.2.1 d hv (w _ hL))
theorem go_lshr {G : xG} {M : xM} {pc pc' : Nat} {L : xL} {S : List Value} {h : xH} {P : Option Value → xH → Prop} {x v : Int64} {y : Int32} (d : decode (xBy M) pc = .ok (.lshr, 1)) (e : pc + 1 = pc') (hv : x >>> (y.toInt64 &&& 63) = v) (k : Go G M pc' L (.long v :: S) h P) : Go G M pc L (.int y :: .long x :: S) h P :=
  k.go (fun _ _ _ _ _ _ _ _ _ _ _ _ _ _ _ C hH hS hL w => by subst e; exact lv_lshr C.1 C.2.1 d hv (w _ hL))
theorem go_i2l {G : xG} {M : xM} {pc pc' : Nat} {L : xL} {S : List Value} {h : xH} {P : Option Value → xH → Prop} {x : Int32} {v : Int64} (d : decode (xBy M) pc = .ok (.i2l, 1)) (e : pc + 1 = pc') (hv : x.toInt64 = v) (k : Go G M pc' L (.long v :: S) h P) : Go G M pc L (.int x :: S) h P :=
  k.go (fun _ _ _ _ _ _ _ _ _ _ _ _ _ _ _ C hH hS hL w => by subst e; exact lv_i2l C.1 C.2.1 d hv (w _ hL))
theorem go_l2i {G : xG} {M : xM} {pc pc' : Nat} {L : xL} {S : List Value} {h : xH} {P : Option Value → xH → Prop} {x : Int64} {v : Int32} (d : decode (xBy M) pc = .ok (.l2i, 1)) (e : pc + 1 = pc') (hv : x.toInt32 = v) (k : Go G M pc' L (.int v :: S) h P) : Go G M pc L (.long x :: S) h P :=
  k.go (fun _ _ _ _ _ _ _ _ _ _ _ _ _ _ _ C hH hS hL w => by subst e; exact lv_l2i C.1 C.2.1 d hv (w _ hL))
theorem go_i2b {G : xG} {M : xM} {pc pc' : Nat} {L : xL} {S : List Value} {h : xH} {P : Option Value → xH → Prop} {x v : Int32} (d : decode (xBy M) pc = .ok (.i2b, 1)) (e : pc + 1 = pc') (hv : x.toInt8.toInt32 = v) (k : Go G M pc' L (.int v :: S) h P) : Go G M pc L (.int x :: S) h P :=
  k.go (fun _ _ _ _ _ _ _ _ _ _ _ _ _ _ _ C hH hS hL w => by subst e; exact lv_i2b C.1 C.2.1 d hv (w _ hL))
theorem go_i2c {G : xG} {M : xM} {pc pc' : Nat} {L : xL} {S : List Value} {h : xH} {P : Option Value → xH → Prop} {x v : Int32} (d : decode (xBy M) pc = .ok (.i2c, 1)) (e : pc + 1 = pc') (hv : (x.toUInt32 % 65536).toInt32 = v) (k : Go G M pc' L (.int v :: S) h P) : Go G M pc L (.int x :: S) h P :=
  k.go (fun _ _ _ _ _ _ _ _ _ _ _ _ _ _ _ C hH hS hL w => by subst e; exact lv_i2c C.1 C.2.1 d hv (w _ hL))
theorem go_lcmp {G : xG} {M : xM} {pc pc' : Nat} {L : xL} {S : List Value} {h : xH} {P : Option Value → xH → Prop} {x y : Int64} (d : decode (xBy M) pc = .ok (.lcmp, 1)) (e : pc + 1 = pc')  (k : Go G M pc' L (.int (lg_cmp x y) :: S) h P) : Go G M pc L (.long y :: .long x :: S) h P :=
  k.go (fun _ _ _ _ _ _ _ _ _ _ _ _ _ _ _ C hH hS hL w => by subst e; exact W.lcmp C.1 C.2.1 d  (w _ hL))
theorem go_null {G : xG} {M : xM} {pc pc' : Nat} {L : xL} {S : List Value} {h : xH} {P : Option Value → xH → Prop}  (d : decode (xBy M) pc = .ok (.aconst_null, 1)) (e : pc + 1 = pc')  (k : Go G M pc' L (.null :: S) h P) : Go G M pc L (S) h P :=
  k.go (fun _ _ _ _ _ _ _ _ _ _ _ _ _ _ _ C hH hS hL w => by subst e; exact lv_null C.1 C.2.1 d  (w _ hL))
theorem go_dup {G : xG} {M : xM} {pc pc' : Nat} {L : xL} {S : List Value} {h : xH} {P : Option Value → xH → Prop} {a : Value} (d : decode (xBy M) pc = .ok (.dup, 1)) (e : pc + 1 = pc') (hc : a.category = 1) (k : Go G M pc' L (a :: a :: S) h P) : Go G M pc L (a :: S) h P :=
  k.go (fun _ _ _ _ _ _ _ _ _ _ _ _ _ _ _ C hH hS hL w => by subst e; exact lv_dup C.1 C.2.1 d ((xv_cat G a).trans hc) (w _ hL))
theorem go_pop {G : xG} {M : xM} {pc pc' : Nat} {L : xL} {S : List Value} {h : xH} {P : Option Value → xH → Prop} {a : Value} (d : decode (xBy M) pc = .ok (.pop, 1)) (e : pc + 1 = pc') (hc : a.category = 1) (k : Go G M pc' L (S) h P) : Go G M pc L (a :: S) h P :=
  k.go (fun _ _ _ _ _ _ _ _ _ _ _ _ _ _ _ C hH hS hL w => by subst e; exact lv_pop C.1 C.2.1 d ((xv_cat G a).trans hc) (w _ hL))
theorem go_dup_x1 {G : xG} {M : xM} {pc pc' : Nat} {L : xL} {S : List Value} {h : xH} {P : Option Value → xH → Prop} {a b : Value} (d : decode (xBy M) pc = .ok (.dup_x1, 1)) (e : pc + 1 = pc') (hc : a.category = 1) (hc2 : b.category = 1) (k : Go G M pc' L (a :: b :: a :: S) h P) : Go G M pc L (a :: b :: S) h P :=
  k.go (fun _ _ _ _ _ _ _ _ _ _ _ _ _ _ _ C hH hS hL w => by subst e; exact lv_dup_x1 C.1 C.2.1 d ((xv_cat G a).trans hc) ((xv_cat G b).trans hc2) (w _ hL))
theorem go_dup2_11 {G : xG} {M : xM} {pc pc' : Nat} {L : xL} {S : List Value} {h : xH} {P : Option Value → xH → Prop} {a b : Value} (d : decode (xBy M) pc = .ok (.dup2, 1)) (e : pc + 1 = pc') (hc : a.category = 1) (hc2 : b.category = 1) (k : Go G M pc' L (a :: b :: a :: b :: S) h P) : Go G M pc L (a :: b :: S) h P :=
  k.go (fun _ _ _ _ _ _ _ _ _ _ _ _ _ _ _ C hH hS hL w => by subst e; exact lv_dup2_11 C.1 C.2.1 d ((xv_cat G a).trans hc) ((xv_cat G b).trans hc2) (w _ hL))
theorem go_if_eq {G : xG} {M : xM} {pc pc' : Nat} {L : xL} {S : List Value} {h : xH} {P : Option Value → xH → Prop} {x : Int32} {off : Int} {tgt : Nat} (d : decode (xBy M) pc = .ok (.ifCond .eq off, 3)) (ht : (pc : Int) + off = (tgt : Int)) (e : pc + 3 = pc') (kt : (x = 0) → Go G M tgt L S h P) (kf : ¬ (x = 0) → Go G M pc' L S h P) : Go G M pc L (.int x :: S) h P := by
  subst e
  by_cases hx : (x = 0)
  · exact (kt hx).go (fun _ _ _ _ _ _ _ _ _ _ _ _ _ _ _ C hH hS hL w => lv_if_eq C.1 C.2.1 d ht (fun _ => w _ hL) (fun n => absurd hx n))
  · exact (kf hx).go (fun _ _ _ _ _ _ _ _ _ _ _ _ _ _ _ C hH hS hL w => lv_if_eq C.1 C.2.1 d ht (fun n => absurd n hx) (fun _ => w _ hL))
theorem go_icmp_eq {G : xG} {M : xM} {pc pc' : Nat} {L : xL} {S : List Value} {h : xH} {P : Option Value → xH → Prop} {x y : Int32} {off : Int} {tgt : Nat} (d : decode (xBy M) pc = .ok (.if_icmp .eq off, 3)) (ht : (pc : Int) + off = (tgt : Int)) (e : pc + 3 = pc') (kt : (x = y) → Go G M tgt L S h P) (kf : ¬ (x = y) → Go G M pc' L S h P) : Go G M pc L (.int y :: .int x :: S) h P := by
  subst e
  by_cases hx : (x = y)
  · exact (kt hx).go (fun _ _ _ _ _ _ _ _ _ _ _ _ _ _ _ C hH hS hL w => lv_icmp_eq C.1 C.2.1 d ht (fun _ => w _ hL) (fun n => absurd hx n))
  · exact (kf hx).go (fun _ _ _ _ _ _ _ _ _ _ _ _ _ _ _ C hH hS hL w => lv_icmp_eq C.1 C.2.1 d ht (fun n => absurd n hx) (fun _ => w _ hL))
theorem go_if_lt {G : xG} {M : xM} {pc pc' : Nat} {L : xL} {S : List Value} {h : xH} {P : Option Value → xH → Prop} {x : Int32} {off : Int} {tgt : Nat} (d : decode (xBy M) pc = .ok (.ifCond .lt off, 3)) (ht : (pc : Int) + off = (tgt : Int)) (e : pc + 3 = pc') (kt : (x < 0) → Go G M tgt L S h P) (kf : ¬ (x < 0) → Go G M pc' L S h P) : Go G M pc L (.int x :: S) h P := by
  subst e
  by_cases hx : (x < 0)
  · exact (kt hx).go (fun _ _ _ _ _ _ _ _ _ _ _ _ _ _ _ C hH hS hL w => lv_if_lt C.1 C.2.1 d ht (fun _ => w _ hL) (fun n => absurd hx n))
  · exact (kf hx).go (fun _ _ _ _ _ _ _ _ _ _ _ _ _ _ _ C hH hS hL w => lv_if_lt C.1 C.2.1 d ht (fun n => absurd n hx) (fun _ => w _ hL))
theorem go_icmp_lt {G : xG} {M : xM} {pc pc' : Nat} {L : xL} {S : List Value} {h : xH} {P : Option Value → xH → Prop} {x y : Int32} {off : Int} {tgt : Nat} (d : decode (xBy M) pc = .ok (.if_icmp .lt off, 3)) (ht : (pc : Int) + off = (tgt : Int)) (e : pc + 3 = pc') (kt : (x < y) → Go G M tgt L S h P) (kf : ¬ (x < y) → Go G M pc' L S h P) : Go G M pc L (.int y :: .int x :: S) h P := by
  subst e
  by_cases hx : (x < y)
  · exact (kt hx).go (fun _ _ _ _ _ _ _ _ _ _ _ _ _ _ _ C hH hS hL w => lv_icmp_lt C.1 C.2.1 d ht (fun _ => w _ hL) (fun n => absurd hx n))
  · exact (kf hx).go (fun _ _ _ _ _ _ _ _ _ _ _ _ _ _ _ C hH hS hL w => lv_icmp_lt C.1 C.2.1 d ht (fun n => absurd n hx) (fun _ => w _ hL))
theorem go_if_ge {G : xG} {M : xM} {pc pc' : Nat} {L : xL} {S : List Value} {h : xH} {P : Option Value → xH → Prop} {x : Int32} {off : Int} {tgt : Nat} (d : decode (xBy M) pc = .ok (.ifCond .ge off, 3)) (ht : (pc : Int) + off = (tgt : Int)) (e : pc + 3 = pc') (kt : (0 ≤ x) → Go G M tgt L S h P) (kf : ¬ (0 ≤ x) → Go G M pc' L S h P) : Go G M pc L (.int x :: S) h P := by
  subst e
  by_cases hx : (0 ≤ x)
  · exact (kt hx).go (fun _ _ _ _ _ _ _ _ _ _ _ _ _ _ _ C hH hS hL w => lv_if_ge C.1 C.2.1 d ht (fun _ => w _ hL) (fun n => absurd hx n))
  · exact (kf hx).go (fun _ _ _ _ _ _ _ _ _ _ _ _ _ _ _ C hH hS hL w => lv_if_ge C.1 C.2.1 d ht (fun n => absurd n hx) (fun _ => w _ hL))
theorem go_icmp_ge {G : xG} {M : xM} {pc pc' : Nat} {L : xL} {S : List Value} {h : xH} {P : Option Value → xH → Prop} {x y : Int32} {off : Int} {tgt : Nat} (d : decode (xBy M) pc = .ok (.if_icmp .ge off, 3)) (ht : (pc : Int) + off = (tgt : Int)) (e : pc + 3 = pc') (kt : (y ≤ x) → Go G M tgt L S h P) (kf : ¬ (y ≤ x) → Go G M pc' L S h P) : Go G M pc L (.int y :: .int x :: S) h P := by
  subst e
  by_cases hx : (y ≤ x)
  · exact (kt hx).go (fun _ _ _ _ _ _ _ _ _ _ _ _ _ _ _ C hH hS hL w => lv_icmp_ge C.1 C.2.1 d ht (fun _ => w _ hL) (fun n => absurd hx n))
  · exact (kf hx).go (fun _ _ _ _ _ _ _ _ _ _ _ _ _ _ _ C hH hS hL w => lv_icmp_ge C.1 C.2.1 d ht (fun n => absurd n hx) (fun _ => w _ hL))
theorem go_if_gt {G : xG} {M : xM} {pc pc' : Nat} {L : xL} {S : List Value} {h : xH} {P : Option Value → xH → Prop} {x : Int32} {off : Int} {tgt : Nat} (d : decode (xBy M) pc = .ok (.ifCond .gt off, 3)) (ht : (pc : Int) + off = (tgt : Int)) (e : pc + 3 = pc') (kt : (0 < x) → Go G M tgt L S h P) (kf : ¬ (0 < x) → Go G M pc' L S h P) : Go G M pc L (.int x :: S) h P := by
  subst e
  by_cases hx : (0 < x)
  · exact (kt hx).go (fun _ _ _ _ _ _ _ _ _ _ _ _ _ _ _ C hH hS hL w => lv_if_gt C.1 C.2.1 d ht (fun _ => w _ hL) (fun n => absurd hx n))
  · exact (kf hx).go (fun _ _ _ _ _ _ _ _ _ _ _ _ _ _ _ C hH hS hL w => lv_if_gt C.1 C.2.1 d ht (fun n => absurd n hx) (fun _ => w _ hL))
theorem go_icmp_gt {G : xG} {M : xM} {pc pc' : Nat} {L : xL} {S : List Value} {h : xH} {P : Option Value → xH → Prop} {x y : Int32} {off : Int} {tgt : Nat} (d : decode (xBy M) pc = .ok (.if_icmp .gt off, 3)) (ht : (pc : Int) + off = (tgt : Int)) (e : pc + 3 = pc') (kt : (y < x) → Go G M tgt L S h P) (kf : ¬ (y < x) → Go G M pc' L S h P) : Go G M pc L (.int y :: .int x :: S) h P := by
  subst e
  by_cases hx : (y < x)
  · exact (kt hx).go (fun _ _ _ _ _ _ _ _ _ _ _ _ _ _ _ C hH hS hL w => lv_icmp_gt C.1 C.2.1 d ht (fun _ => w _ hL) (fun n => absurd hx n))
  · exact (kf hx).go (fun _ _ _ _ _ _ _ _ _ _ _ _ _ _ _ C hH hS hL w => lv_icmp_gt C.1 C.2.1 d ht (fun n => absurd n hx) (fun _ => w _ hL))
theorem go_if_le {G : xG} {M : xM} {pc pc' : Nat} {L : xL} {S : List Value} {h : xH} {P : Option Value → xH → Prop} {x : Int32} {off : Int} {tgt : Nat} (d : decode (xBy M) pc = .ok (.ifCond .le off, 3)) (ht : (pc : Int) + off = (tgt : Int)) (e : pc + 3 = pc') (kt : (x ≤ 0) → Go G M tgt L S h P) (kf : ¬ (x ≤ 0) → Go G M pc' L S h P) : Go G M pc L (.int x :: S) h P := by
  subst e
  by_cases hx : (x ≤ 0)
  · exact (kt hx).go (fun _ _ _ _ _ _ _ _ _ _ _ _ _ _ _ C hH hS hL w => lv_if_le C.1 C.2.1 d ht (fun _ => w _ hL) (fun n => absurd hx n))
  · exact (kf hx).go (fun _ _ _ _ _ _ _ _ _ _ _ _ _ _ _ C hH hS hL w => lv_if_le C.1 C.2.1 d ht (fun n => absurd n hx) (fun _ => w _ hL))
theorem go_icmp_le {G : xG} {M : xM} {pc pc' : Nat} {L : xL} {S : List Value} {h : xH} {P : Option Value → xH → Prop} {x y : Int32} {off : Int} {tgt : Nat} (d : decode (xBy M) pc = .ok (.if_icmp .le off, 3)) (ht : (pc : Int) + off = (tgt : Int)) (e : pc + 3 = pc') (kt : (x ≤ y) → Go G M tgt L S h P) (kf : ¬ (x ≤ y) → Go G M pc' L S h P) : Go G M pc L (.int y :: .int x :: S) h P := by
  subst e
  by_cases hx : (x ≤ y)
  · exact (kt hx).go (fun _ _ _ _ _ _ _ _ _ _ _ _ _ _ _ C hH hS hL w => lv_icmp_le C.1 C.2.1 d ht (fun _ => w _ hL) (fun n => absurd hx n))
  · exact (kf hx).go (fun _ _ _ _ _ _ _ _ _ _ _ _ _ _ _ C hH hS hL w => lv_icmp_le C.1 C.2.1 d ht (fun n => absurd n hx) (fun _ => w _ hL))
theorem go_if_ne {G : xG} {M : xM} {pc pc' : Nat} {L : xL} {S : List Value} {h : xH} {P : Option Value → xH → Prop} {x : Int32} {off : Int} {tgt : Nat} (d : decode (xBy M) pc = .ok (.ifCond .ne off, 3)) (ht : (pc : Int) + off = (tgt : Int)) (e : pc + 3 = pc') (kt : ¬ (x = 0) → Go G M tgt L S h P) (kf : (x = 0) → Go G M pc' L S h P) : Go G M pc L (.int x :: S) h P := by
  subst e
  by_cases hx : x = 0
  · exact (kf hx).go (fun _ _ _ _ _ _ _ _ _ _ _ _ _ _ _ C hH hS hL w => lv_if_ne C.1 C.2.1 d ht (fun n => absurd hx n) (fun _ => w _ hL))
  · exact (kt hx).go (fun _ _ _ _ _ _ _ _ _ _ _ _ _ _ _ C hH hS hL w => lv_if_ne C.1 C.2.1 d ht (fun _ => w _ hL) (fun n => absurd n hx))
theorem go_icmp_ne {G : xG} {M : xM} {pc pc' : Nat} {L : xL} {S : List Value} {h : xH} {P : Option Value → xH → Prop} {x y : Int32} {off : Int} {tgt : Nat} (d : decode (xBy M) pc = .ok (.if_icmp .ne off, 3)) (ht : (pc : Int) + off = (tgt : Int)) (e : pc + 3 = pc') (kt : ¬ (x = y) → Go G M tgt L S h P) (kf : (x = y) → Go G M pc' L S h P) : Go G M pc L (.int y :: .int x :: S) h P := by
  subst e
  by_cases hx : x = y
  · exact (kf hx).go (fun _ _ _ _ _ _ _ _ _ _ _ _ _ _ _ C hH hS hL w => lv_icmp_ne C.1 C.2.1 d ht (fun n => absurd hx n) (fun _ => w _ hL))
  · exact (kt hx).go (fun _ _ _ _ _ _ _ _ _ _ _ _ _ _ _ C hH hS hL w => lv_icmp_ne C.1 C.2.1 d ht (fun _ => w _ hL) (fun n => absurd n hx))
theorem go_goto {G : xG} {M : xM} {pc pc' : Nat} {L : xL} {S : List Value} {h : xH} {P : Option Value → xH → Prop} {off : Int} {tgt : Nat} (d : decode (xBy M) pc = .ok (.goto off, 3)) (ht : (pc : Int) + off = (tgt : Int)) (k : Go G M tgt L S h P) : Go G M pc L S h P :=
  k.go (fun _ _ _ _ _ _ _ _ _ _ _ _ _ _ _ C hH hS hL w => lv_goto C.1 C.2.1 d ht (w _ hL))
theorem go_tableIn {G : xG} {M : xM} {pc pc' : Nat} {L : xL} {S : List Value} {h : xH} {P : Option Value → xH → Prop} {dflt lo hi : Int} {offs : Array Int} {len : Nat} {x : Int32} {off : Int} {tgt : Nat} (d : decode (xBy M) pc = .ok (.tableswitch dflt lo hi offs, len)) (h1 : ¬ x.toInt < lo) (h2 : ¬ hi < x.toInt) (ho : offs[(x.toInt - lo).toNat]? = some off) (ht : (pc : Int) + off = (tgt : Int)) (k : Go G M tgt L S h P) : Go G M pc L (.int x :: S) h P :=
  k.go (fun _ _ _ _ _ _ _ _ _ _ _ _ _ _ _ C hH hS hL w => lv_tableIn C.1 C.2.1 d h1 h2 ho ht (w _ hL))
theorem go_tableOut {G : xG} {M : xM} {pc pc' : Nat} {L : xL} {S : List Value} {h : xH} {P : Option Value → xH → Prop} {dflt lo hi : Int} {offs : Array Int} {len : Nat} {x : Int32} {tgt : Nat} (d : decode (xBy M) pc = .ok (.tableswitch dflt lo hi offs, len)) (h1 : x.toInt < lo ∨ hi < x.toInt) (ht : (pc : Int) + dflt = (tgt : Int)) (k : Go G M tgt L S h P) : Go G M pc L (.int x :: S) h P :=
  k.go (fun _ _ _ _ _ _ _ _ _ _ _ _ _ _ _ C hH hS hL w => lv_tableOut C.1 C.2.1 d h1 ht (w _ hL))
theorem go_ifnull {G : xG} {M : xM} {pc pc' : Nat} {L : xL} {S : List Value} {h : xH} {P : Option Value → xH → Prop} {a : Nat} {off : Int} (d : decode (xBy M) pc = .ok (.ifnull off, 3)) (e : pc + 3 = pc') (k : Go G M pc' L S h P) : Go G M pc L (.ref a :: S) h P :=
  k.go (fun _ _ _ _ _ _ _ _ _ _ _ _ _ _ _ C hH hS hL w => by subst e; exact lv_ifnull C.1 C.2.1 d (w _ hL))
theorem go_ifnullN {G : xG} {M : xM} {pc pc' : Nat} {L : xL} {S : List Value} {h : xH} {P : Option Value → xH → Prop} {off : Int} {tgt : Nat} (d : decode (xBy M) pc = .ok (.ifnull off, 3)) (ht : (pc : Int) + off = (tgt : Int)) (k : Go G M tgt L S h P) : Go G M pc L (.null :: S) h P :=
  k.go (fun _ _ _ _ _ _ _ _ _ _ _ _ _ _ _ C hH hS hL w => lv_ifnullN C.1 C.2.1 d ht (w _ hL))
theorem go_ifnonnull {G : xG} {M : xM} {pc pc' : Nat} {L : xL} {S : List Value} {h : xH} {P : Option Value → xH → Prop} {a : Nat} {off : Int} {tgt : Nat} (d : decode (xBy M) pc = .ok (.ifnonnull off, 3)) (ht : (pc : Int) + off = (tgt : Int)) (k : Go G M tgt L S h P) : Go G M pc L (.ref a :: S) h P :=
  k.go (fun _ _ _ _ _ _ _ _ _ _ _ _ _ _ _ C hH hS hL w => lv_ifnonnull C.1 C.2.1 d ht (w _ hL))
theorem go_ifnonnullN {G : xG} {M : xM} {pc pc' : Nat} {L : xL} {S : List Value} {h : xH} {P : Option Value → xH → Prop} {off : Int} (d : decode (xBy M) pc = .ok (.ifnonnull off, 3)) (e : pc + 3 = pc') (k : Go G M pc' L S h P) : Go G M pc L (.null :: S) h P :=
  k.go (fun _ _ _ _ _ _ _ _ _ _ _ _ _ _ _ C hH hS hL w => by subst e; exact lv_ifnonnullN C.1 C.2.1 d (w _ hL))
theorem go_ldc {G : xG} {M : xM} {pc pc' : Nat} {L : xL} {S : List Value} {h : xH} {P : Option Value → xH → Prop} {index : Nat} {v : Int32} (d : decode (xBy M) pc = .ok (.ldc index, 2)) (e : pc + 2 = pc') (hw : Cond.constant (xOwn M) index v ∈ xW) (k : Go G M pc' L (.int v :: S) h P) : Go G M pc L S h P :=
  k.go (fun _ _ _ _ _ _ _ _ _ _ _ _ _ _ _ C hH hS hL w => by subst e; exact lv_ldc C.1 C.2.1 C.2.2.2.1 (C.2.2.2.2.1 _ hw) d (w _ hL))
theorem go_ldcw {G : xG} {M : xM} {pc pc' : Nat} {L : xL} {S : List Value} {h : xH} {P : Option Value → xH → Prop} {index : Nat} {v : Int32} (d : decode (xBy M) pc = .ok (.ldc_w index, 3)) (e : pc + 3 = pc') (hw : Cond.constant (xOwn M) index v ∈ xW) (k : Go G M pc' L (.int v :: S) h P) : Go G M pc L S h P :=
  k.go (fun _ _ _ _ _ _ _ _ _ _ _ _ _ _ _ C hH hS hL w => by subst e; exact lv_ldcw C.1 C.2.1 C.2.2.2.1 (C.2.2.2.2.1 _ hw) d (w _ hL))
theorem go_ldc2 {G : xG} {M : xM} {pc pc' : Nat} {L : xL} {S : List Value} {h : xH} {P : Option Value → xH → Prop} {index : Nat} {v : Int64} (d : decode (xBy M) pc = .ok (.ldc2_w index, 3)) (e : pc + 3 = pc') (hw : Cond.constantLong (xOwn M) index v ∈ xW) (k : Go G M pc' L (.long v :: S) h P) : Go G M pc L S h P :=
  k.go (fun _ _ _ _ _ _ _ _ _ _ _ _ _ _ _ C hH hS hL w => by subst e; exact lv_ldc2 C.1 C.2.1 C.2.2.2.1 (C.2.2.2.2.1 _ hw) d (w _ hL))
theorem go_ldcS {G : xG} {M : xM} {pc pc' : Nat} {L : xL} {S : List Value} {h : xH} {P : Option Value → xH → Prop} {index j : Nat} {tx : String} (d : decode (xBy M) pc = .ok (.ldc index, 2)) (e : pc + 2 = pc') (hq : xTx[j]? = some (xOwn M, index, tx)) (k : Go G M pc' L (.retAddr j :: S) h P) : Go G M pc L S h P :=
  k.go (fun _ _ _ _ _ _ _ _ _ _ _ _ _ _ _ C hH hS hL w => by subst e; exact va_ldcS C.1 C.2.1 C.2.2.2.1 (C.2.2.2.2.2.2.1.2.2.2.1.1 j _ hq).1 d (w _ hL))
end
section
/-! FIELDS, ARRAYS, NEW CELLS -/
def xLink (own : String) (index : Nat) (q : String × String × String × Bool) : Prop := Cond.fieldLink own index q.1 q.2.1 q.2.2.1 ∈ xW ∨ ∃ host, Cond.fieldLinkNest own index q.1 q.2.1 q.2.2.1 host ∈ xN
/-- the pool entry is field k of the sort ci -/
def xGf (own : String) (index ci k : Nat) : Prop := ∃ (C : String) (T : u_T) (N : Nat), vwCl[ci]? = some (C, T, N) ∧ k < N ∧ (∀ w ∈ u_ws C T N, w ∈ xW) ∧ xLink own index (T k)
theorem go_getf {G : xG} {M : xM} {pc pc' : Nat} {L : xL} {S : List Value} {h : xH} {P : Option Value → xH → Prop} {index ci kf a : Nat} {fs : List Value} {v : Value} (d : decode (xBy M) pc = .ok (.getfield index, 3)) (e : pc + 3 = pc') (g : xGf (xOwn M) index ci kf) (hh : h.2 a = some (.inr (ci, fs))) (hv : fs[kf]? = some v) (k : Go G M pc' L (v :: S) h P) : Go G M pc L (.ref a :: S) h P := by
  obtain ⟨C, T, N, hc, hk, hin, hl⟩ := g
  refine k.go (fun p e0 R s m args below meth c H locs cells slots Q ls X hH hS hL w => ?_)
  subst e
  have hP : va_P (gD G) vwCl [(gB G + a, .inr (ci, fs.map (xv G)))] H := fun j q hq => by
    cases j with
    | zero => cases hq; exact hH.2 a _ hh
    | succ j => simp at hq
  have hv' : (fs.map (xv G))[kf]? = some (xv G v) := by rw [List.getElem?_map, hv]; rfl
  rcases hl with hl | ⟨host, hl⟩
  · exact va_get (D := gD G) (ws := [(gB G + a, .inr (ci, fs.map (xv G)))]) (C := C) (T := T) (N := N) X.1 X.2.1 X.2.2.2.2.1 hin X.2.2.2.1 X.2.2.2.2.2.2.1.1 hP 0 rfl hc kf hk (X.2.2.2.2.1 _ hl) (fun _ h9 => h9) hv' d (w _ hL)
  · exact va_getN (D := gD G) (ws := [(gB G + a, .inr (ci, fs.map (xv G)))]) (C := C) (T := T) (N := N) X.1 X.2.1 X.2.2.2.2.1 hin X.2.2.2.1 X.2.2.2.2.2.2.1.1 hP 0 rfl hc kf hk (va_Nw.use rfl (X.2.2.2.2.2.2.1.2.1 _ hl)) (fun _ h9 => h9) hv' d (w _ hL)
/-- the pool entry is field k of the sort ci, of type ty, and may be written here -/
def xPf (own : String) (index ci k : Nat) (ty : FieldType) (fin : Bool) : Prop := ∃ (C : String) (T : u_T) (N : Nat) (ty0 : Nat → FieldType), vwCl[ci]? = some (C, T, N) ∧ k < N ∧ (∀ w ∈ u_ws C T N, w ∈ xW) ∧ (∀ j, j < N → parseFieldDescriptor (T j).2.2.1 = some (ty0 j)) ∧ (∀ x, x < N → ∀ y, y < N → x ≠ y → (T x).2.1 ≠ (T y).2.1) ∧ (T k).2.2.2 = fin ∧ parseFieldDescriptor (T k).2.2.1 = some ty ∧ (fin = true → (T k).1 = own ∧ Cond.fieldLink own index (T k).1 (T k).2.1 (T k).2.2.1 ∈ xW) ∧ xLink own index (T k)
theorem go_putf {G : xG} {M : xM} {pc pc' : Nat} {L : xL} {S : List Value} {h : xH} {P : Option Value → xH → Prop} {index ci kf a : Nat} {fs : List Value} {v : Value} {ty : FieldType} {fin : Bool} (d : decode (xBy M) pc = .ok (.putfield index, 3)) (e : pc + 3 = pc') (g : xPf (xOwn M) index ci kf ty fin) (hf : fin = true → (xNm M).name = "<init>") (hh : h.2 a = some (.inr (ci, fs))) (hl0 : kf < fs.length) (hn : narrow ty (xv G v) = xv G v) (hft : fits ty (xv G v) = true) (k : Go G M pc' L S (xput h a (.inr (ci, fs.set kf v))) P) : Go G M pc L (v :: .ref a :: S) h P := by
  obtain ⟨C, T, N, ty0, hc, hk, hin, hty, hnm, hfin, hd, hfl, hl⟩ := g
  refine k.put (fun p e0 R s m args below meth c H locs cells slots Q ls X hH hS hL w => ?_)
  subst e
  have hts := X.2.2.2.2.1
  have hown := X.2.2.2.1
  have hKn := X.2.2.2.2.2.2.1
  have hK := hKn.1
  have hap := va_apart (own := xOwn M) hts hin ty0 hty hnm hK hc
  obtain ⟨r, h1, cell, q1, q2, q3, q4⟩ := hH.2 a _ hh
  have hr : r = (C, T, N) := Option.some.inj (h1.symm.trans hc)
  subst hr
  obtain ⟨hS9, hfc, kC, hkC, hkind⟩ := hK.1 ci _ hc
  obtain ⟨cf, kf9, fi, f, hi, hsl⟩ := hS9 kf hk
  have hlay := hts _ (hin _ (u_in_lay hk))
  have hst := (u_facts hfc hkC (u_lays hts hin hk) hi).1
  have done : ∀ H' : Heap, H'[gB G + a]? = some (cell.setSlot f.slot (xv G v)) → H'.size = H.size → (∀ q, q ≠ gB G + a → H'[q]? = H[q]?) → W p (gL G) e0 R s m args below meth c H' (locs ++ [⟨gB G + a, f.slot⟩]) cells slots Q (F0 m (pc + 3) ls (S.map (xv G))) := by
    intro H' e1 e2 e3
    have e1' : H'[gB G + a]? = some (cell.setSlot ((gD G).2 ci kf) (xv G v)) := by rw [← hsl]; exact e1
    refine w H' f.slot e2 e3 ⟨_, hc, t_OB.to (V := updV (vp_V (fs.map (xv G))) kf (xv G v)) ⟨cell.setSlot ((gD G).2 ci kf) (xv G v), e1', q2, q3, t_set q4 hap hk (xv G v)⟩ (fun j _ => ?_)⟩
    rw [vp_updV_set (by rw [List.length_map]; exact hl0), List.map_set]
  unfold u_lay at hlay
  cases fin with
  | true =>
    rw [if_pos hfin] at hlay
    obtain ⟨hdecl, hfl⟩ := hfl rfl
    have hcf : m.cls = cf := by
      obtain ⟨_, _, c', _, _, _, -, -, hf', -, -, -, hown2, -⟩ := Cond.laysFinal_spec hlay
      have e1 : c' = cf := by have := hi.symm.trans hf'; simp at this; exact this.1.symm
      rw [hdecl] at hown2
      rw [← e1]; exact Option.some.inj (hown.symm.trans hown2)
    have h6 := u_fits hfc hkC hkind (Or.inr hlay) hi hd hn hft
    exact W.putFinK X.1 X.2.1 hown (hts _ hfl) hi hst hcf (X.2.2.2.2.2.1 (hf rfl)) (by rw [q2]; exact h6) q1 q3 (by rw [hsl]; exact k2_hasslot (q4 kf hk)) rfl rfl d done
  | false =>
    rw [if_neg (by rw [hfin]; decide)] at hlay
    have h6 := u_store hfc hkC hkind hlay hi hd hn hft
    rcases hl with hl | ⟨host, hl⟩
    · exact W.putK X.1 X.2.1 (f := f) ⟨hown, hts _ hl, ⟨_, _, _, hi⟩, hst⟩ (by rw [q2]; exact h6) q1 q3 (by rw [hsl]; exact k2_hasslot (q4 kf hk)) rfl rfl d done
    · exact va_WputK X.1 X.2.1 (f := f) hown (va_Nw.use rfl (hKn.2.1 _ hl)) hi hst (by rw [q2]; exact h6) q1 q3 (by rw [hsl]; exact k2_hasslot (q4 kf hk)) rfl rfl d done
/-- a sort whose objects are made here -/
def xNw (own : String) (index ci N : Nat) (fs : List Value) : Prop := ∃ (C : String) (T : u_T) (ty0 : Nat → FieldType), vwCl[ci]? = some (C, T, N) ∧ (∀ w ∈ u_ws C T N, w ∈ xW) ∧ (∀ j, j < N → parseFieldDescriptor (T j).2.2.1 = some (ty0 j)) ∧ Cond.classLink own index C ∈ xW ∧ Cond.instantiable C N ∈ xW ∧ Cond.initialized C ∈ xW ∧ (∀ j, j < N → fs[j]? = some (defaultValue (ty0 j)))
theorem xv_def (G : xG) (ty : FieldType) : xv G (defaultValue ty) = defaultValue ty := by cases ty <;> rfl
theorem go_new {G : xG} {M : xM} {pc pc' : Nat} {L : xL} {S : List Value} {h : xH} {P : Option Value → xH → Prop} {index ci N : Nat} {fs : List Value} (d : decode (xBy M) pc = .ok (.new index, 3)) (e : pc + 3 = pc') (g : xNw (xOwn M) index ci N fs) (k : Go G M pc' L (.ref h.1.1 :: S) (xnew h N (.inr (ci, fs))) P) : Go G M pc L S h P := by
  obtain ⟨C, T, ty0, hc, hin, hty, w1, w2, w3, hfs⟩ := g
  refine k.new (fun p e0 R s m args below meth c H locs cells slots Q ls X hH hS hL r1 r2 w => ?_)
  subst e
  have hts := X.2.2.2.2.1
  have hKn := X.2.2.2.2.2.2.1.1.1 ci _ hc
  refine W.newcK X.1 X.2.1 X.2.2.2.1 (hts _ w1) (hts _ w2) (hts _ w3) rfl d r1 r2 hKn.2.1 hH.1 fun H1 kC hkC e1 z1 o1 => ?_
  refine w H1 (by rw [z1, hH.1]) (fun q hq => o1 q (by rw [← hH.1]; exact hq)) ⟨_, hc, (u_born ty0 hts hin hKn hkC e1 hty).to (fun j hj => ?_)⟩
  show defaultValue (ty0 j) = vp_V (fs.map (xv G)) j
  simp [vp_V, hfs j hj, xv_def]
/-! arrays -/
theorem go_ialoadG {G : xG} {h : xH} {H : Heap} {a : Nat} {c : xC} (hH : xHp G h H) (hh : h.2 a = some c) : va_P (gD G) vwCl [(gB G + a, xe G c)] H := fun j q hq => by
  cases j with
  | zero => cases hq; exact hH.2 a _ hh
  | succ j => simp at hq
theorem go_iaload {G : xG} {M : xM} {pc pc' : Nat} {L : xL} {S : List Value} {h : xH} {P : Option Value → xH → Prop} {a n : Nat} {f : Nat → Int32} {i : Int32} (d : decode (xBy M) pc = .ok (.iaload, 1)) (e : pc + 1 = pc') (hh : h.2 a = some (.inl (0, n, .inl f))) (hin : vp_in i n) (k : Go G M pc' L (.int (f i.toNatClampNeg) :: S) h P) : Go G M pc L (.int i :: .ref a :: S) h P :=
  k.go (fun _ _ _ _ _ _ _ _ _ _ _ _ _ _ _ X hH hS hL w => by subst e; exact va_iald (D := gD G) X.1 X.2.1 X.2.2.2.2.2.2.1.1 (go_ialoadG hH hh) 0 0 rfl rfl hin d (w _ hL))
theorem go_baload {G : xG} {M : xM} {pc pc' : Nat} {L : xL} {S : List Value} {h : xH} {P : Option Value → xH → Prop} {a n : Nat} {f : Nat → Int32} {i : Int32} (d : decode (xBy M) pc = .ok (.baload, 1)) (e : pc + 1 = pc') (hh : h.2 a = some (.inl (1, n, .inl f))) (hin : vp_in i n) (k : Go G M pc' L (.int (f i.toNatClampNeg) :: S) h P) : Go G M pc L (.int i :: .ref a :: S) h P :=
  k.go (fun _ _ _ _ _ _ _ _ _ _ _ _ _ _ _ X hH hS hL w => by subst e; exact va_bald (D := gD G) X.1 X.2.1 X.2.2.2.2.2.2.1.1 (go_ialoadG hH hh) 0 1 rfl rfl hin d (w _ hL))
theorem go_zaload {G : xG} {M : xM} {pc pc' : Nat} {L : xL} {S : List Value} {h : xH} {P : Option Value → xH → Prop} {a n : Nat} {f : Nat → Int32} {i : Int32} (d : decode (xBy M) pc = .ok (.baload, 1)) (e : pc + 1 = pc') (hh : h.2 a = some (.inl (3, n, .inl f))) (hin : vp_in i n) (k : Go G M pc' L (.int (f i.toNatClampNeg) :: S) h P) : Go G M pc L (.int i :: .ref a :: S) h P :=
  k.go (fun _ _ _ _ _ _ _ _ _ _ _ _ _ _ _ X hH hS hL w => by subst e; exact va_zald (D := gD G) X.1 X.2.1 X.2.2.2.2.2.2.1.1 (go_ialoadG hH hh) 0 3 rfl rfl hin d (w _ hL))
theorem go_laload {G : xG} {M : xM} {pc pc' : Nat} {L : xL} {S : List Value} {h : xH} {P : Option Value → xH → Prop} {a n : Nat} {f : Nat → Int64} {i : Int32} (d : decode (xBy M) pc = .ok (.laload, 1)) (e : pc + 1 = pc') (hh : h.2 a = some (.inl (2, n, .inr (.inl f)))) (hin : vp_in i n) (k : Go G M pc' L (.long (f i.toNatClampNeg) :: S) h P) : Go G M pc L (.int i :: .ref a :: S) h P :=
  k.go (fun _ _ _ _ _ _ _ _ _ _ _ _ _ _ _ X hH hS hL w => by subst e; exact va_lald (D := gD G) X.1 X.2.1 X.2.2.2.2.2.2.1.1 (go_ialoadG hH hh) 0 2 rfl rfl hin d (w _ hL))
theorem xv_rf (G : xG) (r : Option Nat) : va_rf (r.map (fun a => gB G + a)) = xv G (va_rf r) := by cases r <;> rfl
theorem go_aaload {G : xG} {M : xM} {pc pc' : Nat} {L : xL} {S : List Value} {h : xH} {P : Option Value → xH → Prop} {a n t : Nat} {f : Nat → Option Nat} {i : Int32} (d : decode (xBy M) pc = .ok (.aaload, 1)) (e : pc + 1 = pc') (ht : 4 ≤ t ∧ t < 8) (hh : h.2 a = some (.inl (t, n, .inr (.inr (.inr (.inr f)))))) (hin : vp_in i n) (k : Go G M pc' L (va_rf (f i.toNatClampNeg) :: S) h P) : Go G M pc L (.int i :: .ref a :: S) h P :=
  k.go (fun _ _ _ _ _ _ _ _ _ _ _ _ _ _ _ X hH hS hL w => by
    subst e
    obtain ⟨C, hC⟩ : ∃ C, xty t = .object C := by
      rcases (show t = 4 ∨ t = 5 ∨ t = 6 ∨ t = 7 by omega) with rfl | rfl | rfl | rfl <;> exact ⟨_, rfl⟩
    refine va_aldq (D := gD G) (C := C) X.1 X.2.1 X.2.2.2.2.2.2.1.1 (go_ialoadG hH hh) 0 t rfl (by rw [xtys_at G ht.2, hC]) hin d ?_
    rw [xv_rf]
    exact w _ hL)
theorem go_alen {G : xG} {M : xM} {pc pc' : Nat} {L : xL} {S : List Value} {h : xH} {P : Option Value → xH → Prop} {a t : Nat} {x : vp_A} {v : Int32} (d : decode (xBy M) pc = .ok (.arraylength, 1)) (e : pc + 1 = pc') (ht : t < 8) (hh : h.2 a = some (.inl (t, x))) (hv : Int32.ofNat x.1 = v) (k : Go G M pc' L (.int v :: S) h P) : Go G M pc L (.ref a :: S) h P :=
  k.go (fun _ _ _ _ _ _ _ _ _ _ _ _ _ _ _ X hH hS hL w => by
    subst e
    refine va_alen (D := gD G) X.1 X.2.1 X.2.2.2.2.2.2.1.1 (go_ialoadG hH hh) 0 t rfl (xtys_at G ht) (v := v) ?_ d (w _ hL)
    rw [← hv]
    obtain ⟨n, q⟩ := x
    rcases q with q | q | q | q | q <;> rfl)
theorem go_iastore {G : xG} {M : xM} {pc pc' : Nat} {L : xL} {S : List Value} {h : xH} {P : Option Value → xH → Prop} {a n : Nat} {f : Nat → Int32} {i x : Int32} (d : decode (xBy M) pc = .ok (.iastore, 1)) (e : pc + 1 = pc') (hh : h.2 a = some (.inl (0, n, .inl f))) (hin : vp_in i n) (k : Go G M pc' L S (xput h a (.inl (0, n, .inl (upd f i.toNatClampNeg x)))) P) : Go G M pc L (.int x :: .int i :: .ref a :: S) h P := by
  refine k.put (fun p e0 R s m args below meth c H locs cells slots Q ls X hH hS hL w => ?_)
  subst e
  have hK := X.2.2.2.2.2.2.1.1
  refine W.iast X.1 X.2.1 (hH.2 a _ hh) ((hK.2 0 _ rfl).1 n (fun j => .int (f j))) (fun q => by cases q) (by show ¬ (i < 0 ∨ (arrV _ _ _).slots.size ≤ _); rw [arrV_size]; exact hin) rfl rfl d fun H1 e z oq => ?_
  refine w H1 _ z oq ?_
  show H1[gB G + a]? = some (vp_cell _ _)
  rw [e]
  show some ((vp_cell (gA G 0) (n, .inl f)).setSlot i.toNatClampNeg (.int x)) = some (vp_cell (gA G 0) (n, .inl (upd f i.toNatClampNeg x)))
  rw [vp_cell_i, vp_cell_i, arrV_store]
  congr 2
  funext q
  by_cases hq : q = i.toNatClampNeg
  · subst hq
    simp [updV, upd]
  · simp [updV, upd, hq]
theorem go_bastore {G : xG} {M : xM} {pc pc' : Nat} {L : xL} {S : List Value} {h : xH} {P : Option Value → xH → Prop} {a n : Nat} {f : Nat → Int32} {i x : Int32} (d : decode (xBy M) pc = .ok (.bastore, 1)) (e : pc + 1 = pc') (hh : h.2 a = some (.inl (1, n, .inl f))) (hin : vp_in i n) (k : Go G M pc' L S (xput h a (.inl (1, n, .inl (upd f i.toNatClampNeg (vp_nar .byte x))))) P) : Go G M pc L (.int x :: .int i :: .ref a :: S) h P := by
  refine k.put (fun p e0 R s m args below meth c H locs cells slots Q ls X hH hS hL w => ?_)
  subst e
  have hK := X.2.2.2.2.2.2.1.1
  refine W.bast X.1 X.2.1 (hH.2 a _ hh) ((hK.2 1 _ rfl).1 n (fun j => .int (f j))) (fun q => by cases q) (by show ¬ (i < 0 ∨ (arrV _ _ _).slots.size ≤ _); rw [arrV_size]; exact hin) rfl rfl d fun H1 e z oq => ?_
  refine w H1 _ z oq ?_
  show H1[gB G + a]? = some (vp_cell _ _)
  rw [e]
  show some ((vp_cell (gA G 1) (n, .inl f)).setSlot i.toNatClampNeg _) = some (vp_cell (gA G 1) (n, .inl (upd f i.toNatClampNeg (vp_nar .byte x))))
  rw [vp_cell_i, vp_cell_i, arrV_store]
  congr 2
  funext q
  by_cases hq : q = i.toNatClampNeg
  · subst hq
    simp [updV, upd, vp_nar]
    try rfl
  · simp [updV, upd, hq]
theorem go_zastore {G : xG} {M : xM} {pc pc' : Nat} {L : xL} {S : List Value} {h : xH} {P : Option Value → xH → Prop} {a n : Nat} {f : Nat → Int32} {i x : Int32} (d : decode (xBy M) pc = .ok (.bastore, 1)) (e : pc + 1 = pc') (hh : h.2 a = some (.inl (3, n, .inl f))) (hin : vp_in i n) (k : Go G M pc' L S (xput h a (.inl (3, n, .inl (upd f i.toNatClampNeg (vp_nar .boolean x))))) P) : Go G M pc L (.int x :: .int i :: .ref a :: S) h P := by
  refine k.put (fun p e0 R s m args below meth c H locs cells slots Q ls X hH hS hL w => ?_)
  subst e
  have hK := X.2.2.2.2.2.2.1.1
  refine W.zast X.1 X.2.1 (hH.2 a _ hh) ((hK.2 3 _ rfl).1 n (fun j => .int (f j))) (fun q => by cases q) (by show ¬ (i < 0 ∨ (arrV _ _ _).slots.size ≤ _); rw [arrV_size]; exact hin) rfl rfl d fun H1 e z oq => ?_
  refine w H1 _ z oq ?_
  show H1[gB G + a]? = some (vp_cell _ _)
  rw [e]
  show some ((vp_cell (gA G 3) (n, .inl f)).setSlot i.toNatClampNeg _) = some (vp_cell (gA G 3) (n, .inl (upd f i.toNatClampNeg (vp_nar .boolean x))))
  rw [vp_cell_i, vp_cell_i, arrV_store]
  congr 2
  funext q
  by_cases hq : q = i.toNatClampNeg
  · subst hq
    simp [updV, upd, vp_nar]
    try rfl
  · simp [updV, upd, hq]
theorem go_lastore {G : xG} {M : xM} {pc pc' : Nat} {L : xL} {S : List Value} {h : xH} {P : Option Value → xH → Prop} {a n : Nat} {f : Nat → Int64} {i : Int32} {x : Int64} (d : decode (xBy M) pc = .ok (.lastore, 1)) (e : pc + 1 = pc') (hh : h.2 a = some (.inl (2, n, .inr (.inl f)))) (hin : vp_in i n) (k : Go G M pc' L S (xput h a (.inl (2, n, .inr (.inl (vp_updL f i.toNatClampNeg x))))) P) : Go G M pc L (.long x :: .int i :: .ref a :: S) h P := by
  refine k.put (fun p e0 R s m args below meth c H locs cells slots Q ls X hH hS hL w => ?_)
  subst e
  have hK := X.2.2.2.2.2.2.1.1
  refine W.last X.1 X.2.1 (hH.2 a _ hh) ((hK.2 2 _ rfl).1 n (fun j => .long (f j))) (fun q => by cases q) (by show ¬ (i < 0 ∨ (arrV _ _ _).slots.size ≤ _); rw [arrV_size]; exact hin) rfl rfl d fun H1 e z oq => ?_
  refine w H1 _ z oq ?_
  show H1[gB G + a]? = some (vp_cell _ _)
  rw [e]
  show some ((vp_cell (gA G 2) (n, .inr (.inl f))).setSlot i.toNatClampNeg _) = some (vp_cell (gA G 2) (n, .inr (.inl (vp_updL f i.toNatClampNeg x))))
  rw [vp_cell_l, vp_cell_l, arrV_store]
  congr 2
  funext q
  by_cases hq : q = i.toNatClampNeg
  · subst hq
    simp [updV, vp_updL]
  · simp [updV, vp_updL, hq]
theorem go_aastore {G : xG} {M : xM} {pc pc' : Nat} {L : xL} {S : List Value} {h : xH} {P : Option Value → xH → Prop} {a n t b ci N : Nat} {C : String} {T : u_T} {vs : List Value} {f : Nat → Option Nat} {i : Int32} (d : decode (xBy M) pc = .ok (.aastore, 1)) (e : pc + 1 = pc') (ht : t < 8) (hC : xty t = .object C) (hc : vwCl[ci]? = some (C, T, N)) (hh : h.2 a = some (.inl (t, n, .inr (.inr (.inr (.inr f)))))) (hb : h.2 b = some (.inr (ci, vs))) (hin : vp_in i n) (k : Go G M pc' L S (xput h a (.inl (t, n, .inr (.inr (.inr (.inr (va_up f i.toNatClampNeg (some b)))))))) P) : Go G M pc L (.ref b :: .int i :: .ref a :: S) h P := by
  refine k.put (fun p e0 R s m args below meth c H locs cells slots Q ls X hH hS hL w => ?_)
  subst e
  have hK := X.2.2.2.2.2.2.1.1
  have hlt : i.toNatClampNeg < n := Nat.not_le.mp fun q => hin (Or.inr q)
  have h0 : ¬ i < 0 := fun q => hin (Or.inl q)
  obtain ⟨r', hr', cellV, g1, g2, g3, -⟩ := hH.2 b _ hb
  have hcls := (hK.1 ci _ hc).2
  have hra := (hK.2 t _ (xtys_at G ht)).2
  rw [hC] at hra
  obtain ⟨kA, comp, k1, k2, k3, -⟩ := hra
  have hcomp : comp = (gD G).1 ci := Option.some.inj (k3.symm.trans hcls.1)
  subst hcomp
  obtain ⟨kC, hkC, -⟩ := hcls.2
  refine W.aast X.1 X.2.1 (hH.2 a _ hh) (fun q h => by cases h) (fun h => by cases h) k1 k2 rfl hkC ⟨h0, by show _ < (arrV _ _ _).slots.size; rw [arrV_size]; exact hlt⟩ g1 (fun q h => by rw [g3] at h; cases h) (by rw [g2]; exact hkC) (by rw [g2]; exact va_assign hcls) rfl rfl d fun H1 e z oq => ?_
  refine w H1 _ z oq ?_
  show H1[gB G + a]? = some (vp_cell _ _)
  rw [e]
  show some ((vp_cell (gA G t) (n, .inr (.inr (.inr (.inr (fun j => (f j).map (fun a => gB G + a))))))).setSlot i.toNatClampNeg _) = some (vp_cell (gA G t) (n, .inr (.inr (.inr (.inr (fun j => (va_up f i.toNatClampNeg (some b) j).map (fun a => gB G + a)))))))
  rw [vp_cell_q, vp_cell_q, arrV_store]
  congr 2
  funext q
  by_cases hq : q = i.toNatClampNeg
  · subst hq
    simp [updV, va_up, va_rf]
  · simp [updV, va_up, hq]
def xdA (t n : Nat) : vp_A := if t = 2 then (n, .inr (.inl (fun _ => 0))) else if t < 4 then (n, .inl (fun _ => 0)) else (n, .inr (.inr (.inr (.inr (fun _ => none)))))
theorem go_newarray {G : xG} {M : xM} {pc pc' : Nat} {L : xL} {S : List Value} {h : xH} {P : Option Value → xH → Prop} {atype : ArrayType} {t n : Nat} {i : Int32} (d : decode (xBy M) pc = .ok (.newarray atype, 2)) (e : pc + 2 = pc') (ht : newarray.typeOf atype = xty t) (h4 : t < 4) (hw : Cond.arrayClass (xty t) ∈ xW) (hi : ¬ i < 0) (hn : i.toNatClampNeg = n) (hs : n ≤ 60000) (k : Go G M pc' L (.ref h.1.1 :: S) (xnew h n (.inl (t, xdA t n))) P) : Go G M pc L (.int i :: S) h P := by
  refine k.new (fun p e0 R s m args below meth c H locs cells slots Q ls X hH hS hL r1 r2 w => ?_)
  subst e
  have hK := X.2.2.2.2.2.2.1.1
  have hts := X.2.2.2.2.1
  have hb : componentBytes (newarray.typeOf atype) ≤ 8 := by cases atype <;> decide
  refine va_newaK X.1 X.2.1 (by rw [ht]; exact hts _ hw) rfl d rfl hi hn (Nat.le_trans (Nat.mul_le_mul hs hb) (by decide)) r1 r2 hH.1 fun H1 cA e1 z1 o1 hAr hNm => ?_
  refine w H1 (by rw [z1, hH.1]) (fun q hq => o1 q (by rw [← hH.1]; exact hq)) ?_
  have hra := (hK.2 t _ (xtys_at G (by omega))).2
  have hcA : cA = gA G t := by
    rw [ht] at hNm
    rcases (show t = 0 ∨ t = 1 ∨ t = 2 ∨ t = 3 by omega) with rfl | rfl | rfl | rfl <;> exact Option.some.inj (hNm.symm.trans hra)
  subst hcA
  show H1[gB G + h.1.1]? = some (vp_cell (gA G t) (xa G (xdA t n)))
  rw [e1, ht]
  rcases (show t = 0 ∨ t = 1 ∨ t = 2 ∨ t = 3 by omega) with rfl | rfl | rfl | rfl <;> rfl
theorem go_anewarray {G : xG} {M : xM} {pc pc' : Nat} {L : xL} {S : List Value} {h : xH} {P : Option Value → xH → Prop} {index t n : Nat} {C : String} {i : Int32} (d : decode (xBy M) pc = .ok (.anewarray index, 3)) (e : pc + 3 = pc') (ht : 4 ≤ t ∧ t < 8) (hC : xty t = .object C) (hw : Cond.classLink (xOwn M) index C ∈ xW) (hi : ¬ i < 0) (hn : i.toNatClampNeg = n) (hs : n ≤ 60000) (k : Go G M pc' L (.ref h.1.1 :: S) (xnew h n (.inl (t, xdA t n))) P) : Go G M pc L (.int i :: S) h P := by
  refine k.new (fun p e0 R s m args below meth c H locs cells slots Q ls X hH hS hL r1 r2 w => ?_)
  subst e
  have hK := X.2.2.2.2.2.2.1.1
  have hts := X.2.2.2.2.1
  subst hn
  refine W.anew X.1 X.2.1 X.2.2.2.1 (hts _ hw) (va_AO.use (X.2.2.2.2.2.2.1.2.2.1 t ht.1 ht.2 C hC)) rfl d rfl hi (by omega) r1 r2 fun cA kA comp f1 f2 f3 f4 => ?_
  generalize hH1 : H.push ({ cls := cA, slots := Array.replicate i.toNatClampNeg .null, vm := .none } : Cell) = H1
  have z1 : H1.size = H.size + 1 := by rw [← hH1, Array.size_push]
  have e1 : H1[H.size]? = some (arrV cA i.toNatClampNeg (fun _ => .null)) := by rw [← hH1, Array.getElem?_push_size, ← arrV_new]
  have o1 : ∀ q : Nat, q < H.size → H1[q]? = H[q]? := fun q hq => by rw [← hH1, Array.getElem?_push, if_neg (Nat.ne_of_lt hq)]
  have hra := (hK.2 t _ (xtys_at G ht.2)).2
  rw [hC] at hra
  obtain ⟨kA', comp', -, -, -, k4⟩ := hra
  have hcA : cA = gA G t := Option.some.inj (f1.symm.trans k4)
  subst hcA
  have w' := w H1 z1 o1 (by
    show H1[gB G + h.1.1]? = some (vp_cell (gA G t) (xa G (xdA t i.toNatClampNeg)))
    rw [← hH.1, e1]
    have h2 : ¬ t = 2 := by omega
    have h3 : ¬ t < 4 := by omega
    simp only [xdA, if_neg h2, if_neg h3]
    rfl)
  have hz : xv G (.ref h.1.1) = .ref H.size := by rw [hH.1]; rfl
  rw [List.map_cons, hz] at w'
  exact w'
end
section
/-! CALLS -/
theorem xW_good {w : Cond} (h : w ∈ xW) : (w.onTables && w.keeps) = true ∨ ∃ ty, w = .arrayClass ty := good_of_word (List.mem_filter.mp h).2
theorem xW_goodIn {ws : List Cond} (h : ∀ w ∈ ws, w ∈ xW) : GoodIn xW ws := fun w hw => ⟨h w hw, xW_good (h w hw)⟩
abbrev xCode (M : xM) : Cond := .code (xNm M) (xBy M) (xMl M) (xRt M)
theorem xws_in {M : xM} (h : xCode M ∈ xW) : ∀ w ∈ xws M, w ∈ xW := fun w hw => by
  rcases List.mem_cons.mp hw with rfl | hw
  · exact h
  · exact hw
/-- a call: what the callee does, then what follows -/
theorem Go.call {G : xG} {M M' : xM} {pc pc' : Nat} {L : xL} {S S0 A : List Value} {h : xH} {P P1 : Option Value → xH → Prop} (e : pc + 3 = pc') (hC : Ca G M' A h P1) (k : ∀ v h1, P1 v h1 → Go G M pc' L (v.toList ++ S) h1 P)
    (f : ∀ (v : Option Value) (h1 : xH), Mx G M' A h v h1 → ∀ (p : Program) (e : Env) (R : Room) (s : State) (m : MethodId) (args : Array Value) (below : List Frame) (meth : Method) (c : Code) (H : Heap) (locs : List Loc) (cells slots : Nat) (ls : Array Slot), xCx G M p R s m args meth c → xHp G h H → xS G H locs → xLs G M L ls → cells + (h1.1.1 - h.1.1) ≤ R.cells → slots + (h1.1.2 - h.1.2) ≤ R.slots →
      va_Run p (gL G) e R s m args below meth c H locs cells slots (h1.1.1 - h.1.1) (h1.1.2 - h.1.2) (F0 m pc ls (S0.map (xv G))) (S.map (xv G)) (xQc G v h1 (A.map (xv G)).toArray) (xOut G)) : Go G M pc L S0 h P := by
  obtain ⟨v1, h1, hP1, hM⟩ := hC
  obtain ⟨v, h', hP, hm, hE⟩ := k v1 h1 hP1
  have hm1 := hM.1
  refine ⟨v, h', hP, ⟨by omega, by omega⟩, fun p e0 R s m args below meth c H locs cells slots Cf Sf Q ls C hH hS hL e1 e2 r1 r2 hEnd => ?_⟩
  subst e
  have hr := f v1 h1 hM p e0 R s m args below meth c H locs cells slots ls C hH hS hL (by omega) (by omega)
  intro T hT X
  obtain ⟨v2, st₀, t, T', L', h0, X', hL', g1, g2, hq, st⟩ := hr T hT X
  obtain ⟨hv, hHt, hLo⟩ := hq
  have hv2 : v2 = v1.map (xv G) := Outcome.returned.inj hv
  subst hv2
  have hHT : xHp G h1 T'.heap := by rw [g1]; exact hHt
  have hST : xS G T'.heap (locs ++ L') := by
    rw [g1]
    refine ⟨hLo.1, hLo.2, fun q hq => ?_⟩
    rcases List.mem_append.mp hq with h9 | h9
    · exact hS.2.2 q h9
    · exact hL' q h9
  have w := hE p e0 R s m args below meth c T'.heap (locs ++ L') (cells + (h1.1.1 - h.1.1)) (slots + (h1.1.2 - h.1.2)) Cf Sf Q ls C hHT hST hL (by omega) (by omega) r1 r2 hEnd
  have hst : ((v1.toList ++ S).map (xv G)) = (v1.map (xv G)).toList ++ S.map (xv G) := by cases v1 <;> rfl
  rw [hst] at w
  obtain ⟨t2, a1, b1⟩ := w T' rfl X'
  exact ⟨t2, st t2 a1, b1⟩
theorem xPc_blind (G : xG) (A : List Value) (h : xH) : FrameBlind (xPc G A h) := fun a U g mk q => ⟨q.1, q.2.1, q.2.2.1, xKn.warm (s := U) (U := U.calling g mk a) ((State.WarmedH.refl U)) q.2.2.2⟩
theorem xcat_map (G : xG) (S : List Value) : ((S.map (xv G)).map fun v => v.category) = S.map fun v => v.category := by
  rw [List.map_map]
  exact List.map_congr_left (fun v _ => xv_cat G v)
/-- what every call wants: the callee's code, its level, the number of its parameters -/
def xCl0 (M M' : xM) (n : Nat) : Prop := Cond.initialized (xOwn M') ∈ xW ∧ xCode M' ∈ xW ∧ ((xNm M').cls ≠ "java/lang/invoke/MethodHandle" ∧ (xNm M').cls ≠ "java/lang/invoke/VarHandle" ∧ (parseMethodDescriptor (xNm M').desc).map (fun d => d.parameters.length) = some n) ∧ xLv M' + 1 ≤ xLv M ∧ xMl M' ≤ 100
theorem xPre {G : xG} {M : xM} {A : List Value} {h : xH} {p : Program} {R : Room} {s : State} {m : MethodId} {args : Array Value} {meth : Method} {c : Code} {H : Heap} {locs : List Loc} (X : xCx G M p R s m args meth c) (hH : xHp G h H) (hS : xS G H locs) : ∀ U : State, U.heap = H → s.WarmedH U.vm → xPc G A h (A.map (xv G)).toArray U :=
  fun U hU hW => ⟨rfl, by rw [hU]; exact hH, by rw [hU]; exact ⟨hS.1, hS.2.1⟩, xKn.warm hW X.2.2.2.2.2.2.1⟩
def xCv (M : xM) (index : Nat) (M' : xM) (n : Nat) : Prop := Cond.methodLink (xOwn M) index (xNm M') ∈ xW ∧ Cond.instanceMethod (xNm M') ∈ xW ∧ Cond.selects (xOwn M') (xNm M') (xNm M') ∈ xW ∧ xCl0 M M' n
theorem go_invV {G : xG} {M M' : xM} {pc pc' : Nat} {L : xL} {S S0 As : List Value} {h : xH} {P P1 : Option Value → xH → Prop} {index n a ci N : Nat} {T : u_T} {fs : List Value} (d : decode (xBy M) pc = .ok (.invokevirtual index, 3)) (e : pc + 3 = pc') (q : xCv M index M' n) (hc : vwCl[ci]? = some (xOwn M', T, N)) (hh : h.2 a = some (.inr (ci, fs))) (hs : As.reverse ++ .ref a :: S = S0) (hA : As.length = n) (hW : (S.map fun v => v.category).sum ≤ 8) (hC : Ca G M' (.ref a :: As) h P1) (k : ∀ v h1, P1 v h1 → Go G M pc' L (v.toList ++ S) h1 P) : Go G M pc L S0 h P := by
  obtain ⟨w1, w2, w3, w4, w5, w6, w7, w8⟩ := q
  refine Go.call e hC k (fun v h1 hM p e0 R s m args below meth c H locs cells slots ls X hH hS hL r1 r2 => ?_)
  have hR := X.2.2.2.2.2.2.2
  refine va_runV (As := As.map (xv G)) (b := gB G + a) ⟨X.1, X.2.1, X.2.2.1, X.2.2.2.1, X.2.2.2.2.1⟩ hM.2
    (cwV (C := xOwn M') n X.2.2.2.2.1 (xW_goodIn (ws := wsV (xOwn M) index (xOwn M') (xNm M') (xws M')) (fun w hw => ?_)) rfl rfl rfl ⟨rfl, w6⟩ ⟨Nat.le_trans w7 hR.1, ?_⟩)
    ⟨xPc_blind G _ h, va_recv X.2.2.2.2.2.2.1.1 (go_ialoadG hH hh) hc (q0 := 0) rfl, fun U hU hW => xPre (A := .ref a :: As) X hH hS U hU hW⟩ rfl ?_ hL.1 ?_ (lv_room (by rw [xcat_map]; exact hW)) d ⟨r1, r2⟩
  · simp only [wsV, List.cons_append, List.nil_append, List.mem_cons] at hw
    rcases hw with rfl | rfl | rfl | rfl | hw
    · exact w1
    · exact w2
    · exact w3
    · exact w4
    · exact xws_in w5 w hw
  · show 8 + (xMl M' + 11) + 200 * xLv M' ≤ R.locals
    have := hR.2
    omega
  · rw [List.length_map]; exact hA
  · show S0.map (xv G) = _
    rw [← hs, List.map_append, List.map_reverse]
    rfl
def xCs (M : xM) (index : Nat) (M' : xM) (n : Nat) : Prop := Cond.methodLink (xOwn M) index (xNm M') ∈ xW ∧ Cond.static (xNm M') ∈ xW ∧ xCl0 M M' n
theorem go_invS {G : xG} {M M' : xM} {pc pc' : Nat} {L : xL} {S S0 As : List Value} {h : xH} {P P1 : Option Value → xH → Prop} {index n : Nat} (d : decode (xBy M) pc = .ok (.invokestatic index, 3)) (e : pc + 3 = pc') (q : xCs M index M' n) (hs : As.reverse ++ S = S0) (hA : As.length = n) (hW : (S.map fun v => v.category).sum ≤ 8) (hC : Ca G M' As h P1) (k : ∀ v h1, P1 v h1 → Go G M pc' L (v.toList ++ S) h1 P) : Go G M pc L S0 h P := by
  obtain ⟨w1, w2, w4, w5, w6, w7, w8⟩ := q
  refine Go.call e hC k (fun v h1 hM p e0 R s m args below meth c H locs cells slots ls X hH hS hL r1 r2 => ?_)
  have hR := X.2.2.2.2.2.2.2
  refine va_runS (As := As.map (xv G)) ⟨X.1, X.2.1, X.2.2.1, X.2.2.2.1, X.2.2.2.2.1⟩ hM.2
    (va_cwS n X.2.2.2.2.1 (xW_goodIn (ws := va_wsS (xOwn M) index (xNm M') (xws M')) (fun w hw => ?_)) rfl rfl rfl w6 ⟨Nat.le_trans w7 hR.1, ?_⟩)
    ⟨xPc_blind G _ h, fun U hU hW => xPre (A := As) X hH hS U hU hW⟩ rfl ?_ hL.1 ?_ (lv_room (by rw [xcat_map]; exact hW)) d ⟨r1, r2⟩
  · simp only [va_wsS, List.cons_append, List.nil_append, List.mem_cons] at hw
    rcases hw with rfl | rfl | rfl | hw
    · exact w1
    · exact w2
    · exact w4
    · exact xws_in w5 w hw
  · show 8 + (xMl M' + 11) + 200 * xLv M' ≤ R.locals
    have := hR.2
    omega
  · rw [List.length_map]; exact hA
  · show S0.map (xv G) = _
    rw [← hs, List.map_append, List.map_reverse]
def xCi (M : xM) (index : Nat) (M' : xM) (n : Nat) : Prop := Cond.methodLink (xOwn M) index (xNm M') ∈ xW ∧ Cond.instanceMethod (xNm M') ∈ xW ∧ ((xNm M').name = "<init>" ∧ xRt M' = none) ∧ xCl0 M M' n
theorem go_invI {G : xG} {M M' : xM} {pc pc' : Nat} {L : xL} {S S0 As : List Value} {h : xH} {P P1 : Option Value → xH → Prop} {index n a : Nat} (d : decode (xBy M) pc = .ok (.invokespecial index, 3)) (e : pc + 3 = pc') (q : xCi M index M' n) (hs : As.reverse ++ .ref a :: S = S0) (hA : As.length = n) (hW : (S.map fun v => v.category).sum ≤ 8) (hC : Ca G M' (.ref a :: As) h P1) (k : ∀ v h1, P1 v h1 → Go G M pc' L (v.toList ++ S) h1 P) : Go G M pc L S0 h P := by
  obtain ⟨w1, w2, ⟨w3, w9⟩, w4, w5, w6, w7, w8⟩ := q
  refine Go.call e hC k (fun v h1 hM p e0 R s m args below meth c H locs cells slots ls X hH hS hL r1 r2 => ?_)
  have hR := X.2.2.2.2.2.2.2
  have hts := X.2.2.2.2.1
  refine va_runI (As := As.map (xv G)) (b := gB G + a) ⟨X.1, X.2.1, X.2.2.1, X.2.2.2.1, X.2.2.2.2.1⟩ hM.2
    (cwI (bytes := xBy M') (maxL := xMl M') (ws' := xW) n hts (xW_goodIn (ws := xws M') (xws_in w5)) (by rw [xws, w9]) rfl rfl (hts _ w4) (hts _ w1) (hts _ w2) w3 w6 ⟨Nat.le_trans w7 hR.1, ?_⟩)
    ⟨xPc_blind G _ h, fun U hU hW => xPre (A := .ref a :: As) X hH hS U hU hW⟩ rfl ?_ hL.1 ?_ (lv_room (by rw [xcat_map]; exact hW)) d ⟨r1, r2⟩
  · show 8 + (xMl M' + 11) + 200 * xLv M' ≤ R.locals
    have := hR.2
    omega
  · rw [List.length_map]; exact hA
  · show S0.map (xv G) = _
    rw [← hs, List.map_append, List.map_reverse]
    rfl
def xCsN (M : xM) (index : Nat) (M' : xM) (n : Nat) : Prop := (∃ host, Cond.methodLinkNest (xOwn M) index (xNm M') host ∈ xN) ∧ Cond.static (xNm M') ∈ xW ∧ xCl0 M M' n
theorem go_invSN {G : xG} {M M' : xM} {pc pc' : Nat} {L : xL} {S S0 As : List Value} {h : xH} {P P1 : Option Value → xH → Prop} {index n : Nat} (d : decode (xBy M) pc = .ok (.invokestatic index, 3)) (e : pc + 3 = pc') (q : xCsN M index M' n) (hs : As.reverse ++ S = S0) (hA : As.length = n) (hW : (S.map fun v => v.category).sum ≤ 8) (hC : Ca G M' As h P1) (k : ∀ v h1, P1 v h1 → Go G M pc' L (v.toList ++ S) h1 P) : Go G M pc L S0 h P := by
  obtain ⟨⟨host, w1⟩, w2, w4, w5, w6, w7, w8⟩ := q
  refine Go.call e hC k (fun v h1 hM p e0 R s m args below meth c H locs cells slots ls X hH hS hL r1 r2 => ?_)
  have hR := X.2.2.2.2.2.2.2
  have hts := X.2.2.2.2.1
  refine va_runSN (As := As.map (xv G)) ⟨X.1, X.2.1, X.2.2.1, X.2.2.2.1, X.2.2.2.2.1⟩ hM.2
    ⟨va_cnB (host := host) (bytes := xBy M') (maxL := xMl M') (ret := xRt M') (ws' := xW) n hts (xW_goodIn (ws := xws M') (xws_in w5)) rfl rfl rfl (X.2.2.2.2.2.2.1.2.1 _ w1) (hts _ w4) w6 ⟨Nat.le_trans w7 hR.1, ?_⟩, hts _ w2, trivial⟩
    ⟨xPc_blind G _ h, fun U hU hW => xPre (A := As) X hH hS U hU hW⟩ rfl ?_ hL.1 ?_ (lv_room (by rw [xcat_map]; exact hW)) d ⟨r1, r2⟩
  · show 8 + (xMl M' + 11) + 200 * xLv M' ≤ R.locals
    have := hR.2
    omega
  · rw [List.length_map]; exact hA
  · show S0.map (xv G) = _
    rw [← hs, List.map_append, List.map_reverse]
def xCiN (M : xM) (index : Nat) (M' : xM) (n : Nat) : Prop := (∃ host, Cond.methodLinkNest (xOwn M) index (xNm M') host ∈ xN) ∧ Cond.instanceMethod (xNm M') ∈ xW ∧ ((xNm M').name = "<init>" ∧ xRt M' = none) ∧ xCl0 M M' n
theorem go_invIN {G : xG} {M M' : xM} {pc pc' : Nat} {L : xL} {S S0 As : List Value} {h : xH} {P P1 : Option Value → xH → Prop} {index n a : Nat} (d : decode (xBy M) pc = .ok (.invokespecial index, 3)) (e : pc + 3 = pc') (q : xCiN M index M' n) (hs : As.reverse ++ .ref a :: S = S0) (hA : As.length = n) (hW : (S.map fun v => v.category).sum ≤ 8) (hC : Ca G M' (.ref a :: As) h P1) (k : ∀ v h1, P1 v h1 → Go G M pc' L (v.toList ++ S) h1 P) : Go G M pc L S0 h P := by
  obtain ⟨⟨host, w1⟩, w2, ⟨w3, w9⟩, w4, w5, w6, w7, w8⟩ := q
  refine Go.call e hC k (fun v h1 hM p e0 R s m args below meth c H locs cells slots ls X hH hS hL r1 r2 => ?_)
  have hR := X.2.2.2.2.2.2.2
  have hts := X.2.2.2.2.1
  refine va_runIN (As := As.map (xv G)) (b := gB G + a) ⟨X.1, X.2.1, X.2.2.1, X.2.2.2.1, X.2.2.2.2.1⟩ hM.2
    ⟨va_cnB (host := host) (bytes := xBy M') (maxL := xMl M') (ret := none) (ws' := xW) n hts (xW_goodIn (ws := xws M') (xws_in w5)) (by rw [xws, w9]) rfl rfl (X.2.2.2.2.2.2.1.2.1 _ w1) (hts _ w4) w6 ⟨Nat.le_trans w7 hR.1, ?_⟩, w3, hts _ w2⟩
    ⟨xPc_blind G _ h, fun U hU hW => xPre (A := .ref a :: As) X hH hS U hU hW⟩ rfl ?_ hL.1 ?_ (lv_room (by rw [xcat_map]; exact hW)) d ⟨r1, r2⟩
  · show 8 + (xMl M' + 11) + 200 * xLv M' ≤ R.locals
    have := hR.2
    omega
  · rw [List.length_map]; exact hA
  · show S0.map (xv G) = _
    rw [← hs, List.map_append, List.map_reverse]
    rfl
/-- Object's constructor -/
theorem go_objInit {G : xG} {M : xM} {pc pc' : Nat} {L : xL} {S : List Value} {h : xH} {P : Option Value → xH → Prop} {index a : Nat} (d : decode (xBy M) pc = .ok (.invokespecial index, 3)) (e : pc + 3 = pc') (w1 : Cond.methodLink (xOwn M) index objectInit ∈ xW) (w2 : Cond.instanceMethod objectInit ∈ xW) (w3 : Cond.code objectInit ⟨#[0xb1]⟩ 1 none ∈ xW) (hv : 1 ≤ xLv M) (hW : (S.map fun v => v.category).sum ≤ 8) (k : Go G M pc' L S h P) : Go G M pc L (.ref a :: S) h P :=
  k.go (fun p e0 R s m args below meth c H locs cells slots Q ls X hH hS hL w => by
    subst e
    have hts := X.2.2.2.2.1
    have hR := X.2.2.2.2.2.2.2
    refine W.objInit X.1 X.2.1 X.2.2.2.1 (hts _ w1) (hts _ w2) (hts _ w3) rfl (hL.1.trans X.2.2.1.symm) (a := gB G + a) (rest := S.map (xv G)) rfl d (Nat.le_trans hv hR.1) ?_ (w _ hL)
    have h8 := lv_room (m := m) (pc := pc) (ls := ls) (rest := (Value.ref a :: S).map (xv G)) (st := S.map (xv G)) (by rw [xcat_map]; exact hW)
    have := hR.2
    omega)
end
section
def mX0_init : xM := (yX0_init, prog_2_method_1_code, 2, (Option.none : Option Jvm.ClassFile.FieldType), 1)
def mX0_isValid : xM := (yX0_isValid, prog_2_method_2_code, 3, (Option.some Jvm.ClassFile.FieldType.boolean), 7)
def mX0_hasPauses : xM := (yX0_hasPauses, prog_2_method_3_code, 4, (Option.some Jvm.ClassFile.FieldType.boolean), 2)
def mX0_isRing : xM := (yX0_isRing, prog_2_method_4_code, 6, (Option.some Jvm.ClassFile.FieldType.boolean), 4)
def mX0_doHolesFit : xM := (yX0_doHolesFit, prog_2_method_5_code, 5, (Option.some Jvm.ClassFile.FieldType.boolean), 6)
def mX0_isOnePiece : xM := (yX0_isOnePiece, prog_2_method_6_code, 3, (Option.some Jvm.ClassFile.FieldType.boolean), 6)
def mX0_isSeenBefore : xM := (yX0_isSeenBefore, prog_2_method_7_code, 3, (Option.some Jvm.ClassFile.FieldType.boolean), 2)
def mX0_closesCircle : xM := (yX0_closesCircle, prog_2_method_8_code, 5, (Option.some Jvm.ClassFile.FieldType.boolean), 5)
def mX0_isOnRing : xM := (yX0_isOnRing, prog_2_method_9_code, 5, (Option.some Jvm.ClassFile.FieldType.boolean), 4)
def mX0_joinGroups : xM := (yX0_joinGroups, prog_2_method_10_code, 4, (Option.none : Option Jvm.ClassFile.FieldType), 1)
def mX1_init : xM := (yX1_init, prog_3_method_1_code, 1, (Option.none : Option Jvm.ClassFile.FieldType), 2)
def mX1_aim : xM := (yX1_aim, prog_3_method_2_code, 5, (Option.none : Option Jvm.ClassFile.FieldType), 2)
def mX1_scan : xM := (yX1_scan, prog_3_method_3_code, 7, (Option.some Jvm.ClassFile.FieldType.int), 5)
def mX1_isWayApart : xM := (yX1_isWayApart, prog_3_method_4_code, 3, (Option.some Jvm.ClassFile.FieldType.boolean), 2)
def mX1_gather : xM := (yX1_gather, prog_3_method_5_code, 8, (Option.none : Option Jvm.ClassFile.FieldType), 3)
def mX1_cross : xM := (yX1_cross, prog_3_method_6_code, 14, (Option.none : Option Jvm.ClassFile.FieldType), 2)
def mX1_goAlong : xM := (yX1_goAlong, prog_3_method_7_code, 17, (Option.none : Option Jvm.ClassFile.FieldType), 2)
def mX1_noteCut : xM := (yX1_noteCut, prog_3_method_8_code, 6, (Option.none : Option Jvm.ClassFile.FieldType), 1)
def mX1_sortCuts : xM := (yX1_sortCuts, prog_3_method_9_code, 8, (Option.none : Option Jvm.ClassFile.FieldType), 4)
def mX1_sweep : xM := (yX1_sweep, prog_3_method_10_code, 7, (Option.some Jvm.ClassFile.FieldType.int), 4)
def mX1_lieOfPiece : xM := (yX1_lieOfPiece, prog_3_method_11_code, 1, (Option.some Jvm.ClassFile.FieldType.int), 1)
def mX2_init : xM := (yX2_init, prog_4_method_1_code, 1, (Option.none : Option Jvm.ClassFile.FieldType), 1)
def mX2_measure : xM := (yX2_measure, prog_4_method_2_code, 11, (Option.none : Option Jvm.ClassFile.FieldType), 6)
def mX2_measureFoot : xM := (yX2_measureFoot, prog_4_method_3_code, 19, (Option.none : Option Jvm.ClassFile.FieldType), 4)
def mX2_keep : xM := (yX2_keep, prog_4_method_4_code, 7, (Option.none : Option Jvm.ClassFile.FieldType), 1)
def mX2_compareWith : xM := (yX2_compareWith, prog_4_method_5_code, 2, (Option.some Jvm.ClassFile.FieldType.int), 4)
def mX2_compareParts : xM := (yX2_compareParts, prog_4_method_6_code, 20, (Option.some Jvm.ClassFile.FieldType.int), 3)
def mX3_init : xM := (yX3_init, prog_5_method_1_code, 1, (Option.none : Option Jvm.ClassFile.FieldType), 2)
def mX3_freshShape : xM := (yX3_freshShape, prog_5_method_2_code, 2, (Option.some (Jvm.ClassFile.FieldType.object "LandBase$Shape")), 2)
def mX3_hasRoom : xM := (yX3_hasRoom, prog_5_method_3_code, 2, (Option.some Jvm.ClassFile.FieldType.boolean), 1)
def mX3_settle : xM := (yX3_settle, prog_5_method_4_code, 2, (Option.some Jvm.ClassFile.FieldType.int), 4)
def mX3_turn : xM := (yX3_turn, prog_5_method_5_code, 2, (Option.some Jvm.ClassFile.FieldType.int), 5)
def mX3_begin : xM := (yX3_begin, prog_5_method_6_code, 1, (Option.some Jvm.ClassFile.FieldType.int), 1)
def mX3_commit : xM := (yX3_commit, prog_5_method_7_code, 1, (Option.some Jvm.ClassFile.FieldType.int), 4)
def mX3_abort : xM := (yX3_abort, prog_5_method_8_code, 1, (Option.some Jvm.ClassFile.FieldType.int), 2)
def mX3_writeLog : xM := (yX3_writeLog, prog_5_method_9_code, 3, (Option.some Jvm.ClassFile.FieldType.int), 3)
def mX3_save : xM := (yX3_save, prog_5_method_10_code, 1, (Option.some Jvm.ClassFile.FieldType.int), 2)
def mX3_restore : xM := (yX3_restore, prog_5_method_11_code, 1, (Option.none : Option Jvm.ClassFile.FieldType), 2)
def mX3_countFlaws : xM := (yX3_countFlaws, prog_5_method_12_code, 2, (Option.some Jvm.ClassFile.FieldType.int), 2)
def mX4_sideOf : xM := (yX4_sideOf, prog_6_method_2_code, 10, (Option.some Jvm.ClassFile.FieldType.long), 1)
def mX4_isInBoxOf : xM := (yX4_isInBoxOf, prog_6_method_3_code, 4, (Option.some Jvm.ClassFile.FieldType.boolean), 2)
def mX4_isOnWay : xM := (yX4_isOnWay, prog_6_method_4_code, 4, (Option.some Jvm.ClassFile.FieldType.boolean), 3)
def mX4_locate : xM := (yX4_locate, prog_6_method_5_code, 3, (Option.some Jvm.ClassFile.FieldType.int), 5)
def mX4_locateOnLine : xM := (yX4_locateOnLine, prog_6_method_6_code, 5, (Option.some Jvm.ClassFile.FieldType.int), 4)
def mX4_locateInPolygon : xM := (yX4_locateInPolygon, prog_6_method_7_code, 6, (Option.some Jvm.ClassFile.FieldType.int), 4)
def mX4_countCommon : xM := (yX4_countCommon, prog_6_method_8_code, 12, (Option.some Jvm.ClassFile.FieldType.int), 3)
def mX4_areBoxesApart : xM := (yX4_areBoxesApart, prog_6_method_9_code, 4, (Option.some Jvm.ClassFile.FieldType.boolean), 2)
def mX4_countOnLine : xM := (yX4_countOnLine, prog_6_method_10_code, 9, (Option.some Jvm.ClassFile.FieldType.int), 2)
def mX4_isInWindow : xM := (yX4_isInWindow, prog_6_method_11_code, 17, (Option.some Jvm.ClassFile.FieldType.boolean), 6)
def mX4_upperProduct : xM := (yX4_upperProduct, prog_6_method_12_code, 16, (Option.some Jvm.ClassFile.FieldType.long), 1)
def mX4_compareBits : xM := (yX4_compareBits, prog_6_method_13_code, 4, (Option.some Jvm.ClassFile.FieldType.int), 2)
def mX4_compareProducts : xM := (yX4_compareProducts, prog_6_method_14_code, 9, (Option.some Jvm.ClassFile.FieldType.int), 3)
def mX5_init : xM := (yX5_init, prog_7_method_1_code, 1, (Option.none : Option Jvm.ClassFile.FieldType), 2)
def mX5_readStatement : xM := (yX5_readStatement, prog_7_method_2_code, 3, (Option.some Jvm.ClassFile.FieldType.boolean), 9)
def mX5_readNumbers : xM := (yX5_readNumbers, prog_7_method_3_code, 4, (Option.some Jvm.ClassFile.FieldType.boolean), 3)
def mX5_readFillKind : xM := (yX5_readFillKind, prog_7_method_4_code, 2, (Option.some Jvm.ClassFile.FieldType.boolean), 8)
def mX5_readRelation : xM := (yX5_readRelation, prog_7_method_5_code, 2, (Option.some Jvm.ClassFile.FieldType.boolean), 8)
def mX5_readShape : xM := (yX5_readShape, prog_7_method_6_code, 4, (Option.some Jvm.ClassFile.FieldType.boolean), 8)
def mX5_readRings : xM := (yX5_readRings, prog_7_method_7_code, 3, (Option.some Jvm.ClassFile.FieldType.boolean), 5)
def mX5_readRing : xM := (yX5_readRing, prog_7_method_8_code, 4, (Option.some Jvm.ClassFile.FieldType.boolean), 4)
def mX5_readPlace : xM := (yX5_readPlace, prog_7_method_9_code, 3, (Option.some Jvm.ClassFile.FieldType.boolean), 3)
def mX6_init : xM := (yX6_init, prog_8_method_1_code, 2, (Option.none : Option Jvm.ClassFile.FieldType), 1)
def mX6_holds : xM := (yX6_holds, prog_8_method_2_code, 4, (Option.some Jvm.ClassFile.FieldType.boolean), 7)
def mX6_doMeet : xM := (yX6_doMeet, prog_8_method_3_code, 6, (Option.some Jvm.ClassFile.FieldType.boolean), 6)
def mX6_doLinesMeet : xM := (yX6_doLinesMeet, prog_8_method_4_code, 4, (Option.some Jvm.ClassFile.FieldType.boolean), 4)
def mX6_doInteriorsMeet : xM := (yX6_doInteriorsMeet, prog_8_method_5_code, 7, (Option.some Jvm.ClassFile.FieldType.boolean), 6)
def mX6_areOnlyAlong : xM := (yX6_areOnlyAlong, prog_8_method_6_code, 2, (Option.some Jvm.ClassFile.FieldType.boolean), 1)
def mX6_doLineInteriorsMeet : xM := (yX6_doLineInteriorsMeet, prog_8_method_7_code, 5, (Option.some Jvm.ClassFile.FieldType.boolean), 5)
def mX6_isAtTip : xM := (yX6_isAtTip, prog_8_method_8_code, 6, (Option.some Jvm.ClassFile.FieldType.boolean), 4)
def mX6_isWithin : xM := (yX6_isWithin, prog_8_method_9_code, 6, (Option.some Jvm.ClassFile.FieldType.boolean), 6)
def mX6_isLineWithin : xM := (yX6_isLineWithin, prog_8_method_10_code, 3, (Option.some Jvm.ClassFile.FieldType.boolean), 3)
def mX6_isWayCovered : xM := (yX6_isWayCovered, prog_8_method_11_code, 11, (Option.some Jvm.ClassFile.FieldType.boolean), 2)
def mX7_init : xM := (yX7_init, prog_9_method_1_code, 1, (Option.none : Option Jvm.ClassFile.FieldType), 1)
def mX7_start : xM := (yX7_start, prog_9_method_2_code, 2, (Option.none : Option Jvm.ClassFile.FieldType), 1)
def mX7_addPlace : xM := (yX7_addPlace, prog_9_method_3_code, 3, (Option.none : Option Jvm.ClassFile.FieldType), 1)
def mX7_closeRing : xM := (yX7_closeRing, prog_9_method_4_code, 1, (Option.none : Option Jvm.ClassFile.FieldType), 1)
def mX7_finish : xM := (yX7_finish, prog_9_method_5_code, 2, (Option.none : Option Jvm.ClassFile.FieldType), 2)
def mX7_ringStart : xM := (yX7_ringStart, prog_9_method_6_code, 2, (Option.some Jvm.ClassFile.FieldType.int), 1)
def mX7_isAlike : xM := (yX7_isAlike, prog_9_method_7_code, 3, (Option.some Jvm.ClassFile.FieldType.boolean), 1)
def mX7_canMove : xM := (yX7_canMove, prog_9_method_8_code, 5, (Option.some Jvm.ClassFile.FieldType.boolean), 2)
def mX7_isBoxApart : xM := (yX7_isBoxApart, prog_9_method_9_code, 2, (Option.some Jvm.ClassFile.FieldType.boolean), 1)
def mX7_isBoxWithin : xM := (yX7_isBoxWithin, prog_9_method_10_code, 2, (Option.some Jvm.ClassFile.FieldType.boolean), 1)
def mX7_copyMoved : xM := (yX7_copyMoved, prog_9_method_11_code, 6, (Option.none : Option Jvm.ClassFile.FieldType), 3)
def mX8_init : xM := (yX8_init, prog_10_method_1_code, 1, (Option.none : Option Jvm.ClassFile.FieldType), 1)
def mX8_indexOf : xM := (yX8_indexOf, prog_10_method_2_code, 3, (Option.some Jvm.ClassFile.FieldType.int), 1)
def mX8_shapeWith : xM := (yX8_shapeWith, prog_10_method_3_code, 3, (Option.some (Jvm.ClassFile.FieldType.object "LandBase$Shape")), 2)
def mX8_insert : xM := (yX8_insert, prog_10_method_4_code, 4, (Option.none : Option Jvm.ClassFile.FieldType), 1)
def mX8_replace : xM := (yX8_replace, prog_10_method_5_code, 3, (Option.none : Option Jvm.ClassFile.FieldType), 1)
def mX8_removeAt : xM := (yX8_removeAt, prog_10_method_6_code, 3, (Option.none : Option Jvm.ClassFile.FieldType), 1)
def mX8_copyFrom : xM := (yX8_copyFrom, prog_10_method_7_code, 3, (Option.none : Option Jvm.ClassFile.FieldType), 1)
def mX8_countBadRows : xM := (yX8_countBadRows, prog_10_method_8_code, 6, (Option.some Jvm.ClassFile.FieldType.int), 1)
def mX9_init : xM := (yX9_init, prog_11_method_1_code, 1, (Option.none : Option Jvm.ClassFile.FieldType), 1)
def mX9_append : xM := (yX9_append, prog_11_method_2_code, 4, (Option.none : Option Jvm.ClassFile.FieldType), 1)
def mX9_clear : xM := (yX9_clear, prog_11_method_3_code, 1, (Option.none : Option Jvm.ClassFile.FieldType), 1)
def mX9_rewind : xM := (yX9_rewind, prog_11_method_4_code, 1, (Option.none : Option Jvm.ClassFile.FieldType), 3)
def mX9_advance : xM := (yX9_advance, prog_11_method_5_code, 3, (Option.none : Option Jvm.ClassFile.FieldType), 2)
def mX9_takeWord : xM := (yX9_takeWord, prog_11_method_6_code, 2, (Option.none : Option Jvm.ClassFile.FieldType), 1)
def mX9_takeNumber : xM := (yX9_takeNumber, prog_11_method_7_code, 8, (Option.none : Option Jvm.ClassFile.FieldType), 1)
def mX9_skipSign : xM := (yX9_skipSign, prog_11_method_8_code, 2, (Option.some Jvm.ClassFile.FieldType.boolean), 3)
def mX9_skipWord : xM := (yX9_skipWord, prog_11_method_9_code, 5, (Option.some Jvm.ClassFile.FieldType.int), 7)
def mX9_isToken : xM := (yX9_isToken, prog_11_method_10_code, 5, (Option.some Jvm.ClassFile.FieldType.boolean), 6)
def mX10_init : xM := (yX10_init, prog_1_method_1_code, 3, (Option.none : Option Jvm.ClassFile.FieldType), 3)
def mX10_feed : xM := (yX10_feed, prog_1_method_2_code, 11, (Option.some Jvm.ClassFile.FieldType.int), 2)
def mX10_end : xM := (yX10_end, prog_1_method_3_code, 2, (Option.some Jvm.ClassFile.FieldType.int), 1)
def mX10_run : xM := (yX10_run, prog_1_method_4_code, 3, (Option.some Jvm.ClassFile.FieldType.int), 10)
def mX10_wrong : xM := (yX10_wrong, prog_1_method_5_code, 1, (Option.some Jvm.ClassFile.FieldType.int), 1)
def mX10_outputs : xM := (yX10_outputs, prog_1_method_6_code, 1, (Option.some Jvm.ClassFile.FieldType.int), 1)
def mX10_out : xM := (yX10_out, prog_1_method_7_code, 2, (Option.some Jvm.ClassFile.FieldType.int), 1)
def mX10_crash : xM := (yX10_crash, prog_1_method_8_code, 4, (Option.some Jvm.ClassFile.FieldType.boolean), 1)
def mX10_recover : xM := (yX10_recover, prog_1_method_9_code, 1, (Option.some Jvm.ClassFile.FieldType.int), 3)
def mX10_isDown : xM := (yX10_isDown, prog_1_method_10_code, 1, (Option.some Jvm.ClassFile.FieldType.boolean), 1)
def mX10_isOpen : xM := (yX10_isOpen, prog_1_method_11_code, 1, (Option.some Jvm.ClassFile.FieldType.boolean), 1)
def mX10_live : xM := (yX10_live, prog_1_method_12_code, 1, (Option.some Jvm.ClassFile.FieldType.int), 1)
def mX10_idAt : xM := (yX10_idAt, prog_1_method_13_code, 2, (Option.some Jvm.ClassFile.FieldType.int), 1)
def mX10_kindOf : xM := (yX10_kindOf, prog_1_method_14_code, 3, (Option.some Jvm.ClassFile.FieldType.int), 4)
def mX10_places : xM := (yX10_places, prog_1_method_15_code, 3, (Option.some Jvm.ClassFile.FieldType.int), 4)
def mX10_rings : xM := (yX10_rings, prog_1_method_16_code, 3, (Option.some Jvm.ClassFile.FieldType.int), 4)
def mX10_at : xM := (yX10_at, prog_1_method_17_code, 5, (Option.some Jvm.ClassFile.FieldType.int), 4)
def mX10_relate : xM := (yX10_relate, prog_1_method_18_code, 6, (Option.some Jvm.ClassFile.FieldType.int), 8)
def mX10_nearer : xM := (yX10_nearer, prog_1_method_19_code, 7, (Option.some Jvm.ClassFile.FieldType.int), 7)
def mX10_used : xM := (yX10_used, prog_1_method_20_code, 1, (Option.some Jvm.ClassFile.FieldType.int), 1)
def mX10_saves : xM := (yX10_saves, prog_1_method_21_code, 1, (Option.some Jvm.ClassFile.FieldType.int), 1)
def mX10_flaws : xM := (yX10_flaws, prog_1_method_22_code, 1, (Option.some Jvm.ClassFile.FieldType.int), 3)
def mX10_isInPlane : xM := (yX10_isInPlane, prog_1_method_23_code, 2, (Option.some Jvm.ClassFile.FieldType.boolean), 1)
def mX10_shapeOf : xM := (yX10_shapeOf, prog_1_method_24_code, 2, (Option.some (Jvm.ClassFile.FieldType.object "LandBase$Shape")), 3)
def mX10_putAnswer : xM := (yX10_putAnswer, prog_1_method_25_code, 3, (Option.none : Option Jvm.ClassFile.FieldType), 2)
def mX10_putInt : xM := (yX10_putInt, prog_1_method_26_code, 2, (Option.none : Option Jvm.ClassFile.FieldType), 1)
def mX10_offer : xM := (yX10_offer, prog_1_method_27_code, 3, (Option.none : Option Jvm.ClassFile.FieldType), 1)
def mX10_add : xM := (yX10_add, prog_1_method_28_code, 5, (Option.some Jvm.ClassFile.FieldType.int), 8)
def mX10_drop : xM := (yX10_drop, prog_1_method_29_code, 2, (Option.some Jvm.ClassFile.FieldType.int), 5)
def mX10_move : xM := (yX10_move, prog_1_method_30_code, 6, (Option.some Jvm.ClassFile.FieldType.int), 5)
def mX10_fill : xM := (yX10_fill, prog_1_method_31_code, 6, (Option.some Jvm.ClassFile.FieldType.int), 5)
def mX10_isFillInPlane : xM := (yX10_isFillInPlane, prog_1_method_32_code, 5, (Option.some Jvm.ClassFile.FieldType.boolean), 1)
def mX10_drawShape : xM := (yX10_drawShape, prog_1_method_33_code, 8, (Option.some Jvm.ClassFile.FieldType.int), 3)
def mX10_nextSeed : xM := (yX10_nextSeed, prog_1_method_34_code, 1, (Option.some Jvm.ClassFile.FieldType.int), 1)
def mX10_draw : xM := (yX10_draw, prog_1_method_35_code, 2, (Option.some Jvm.ClassFile.FieldType.int), 1)
def mX10_find : xM := (yX10_find, prog_1_method_36_code, 3, (Option.some Jvm.ClassFile.FieldType.int), 8)
def mX10_window : xM := (yX10_window, prog_1_method_37_code, 7, (Option.some Jvm.ClassFile.FieldType.int), 7)
def mX10_near : xM := (yX10_near, prog_1_method_38_code, 4, (Option.some Jvm.ClassFile.FieldType.int), 7)
def mX10_sortIn : xM := (yX10_sortIn, prog_1_method_39_code, 6, (Option.none : Option Jvm.ClassFile.FieldType), 5)
def mX10_join : xM := (yX10_join, prog_1_method_40_code, 9, (Option.some Jvm.ClassFile.FieldType.int), 8)
def mX11_init : xM := (yX11_init, prog_14_method_1_code, 1, (Option.none : Option Jvm.ClassFile.FieldType), 1)
def mX11_take : xM := (yX11_take, prog_14_method_2_code, 2, (Option.none : Option Jvm.ClassFile.FieldType), 2)
def mX12_init : xM := (yX12_init, prog_15_method_1_code, 1, (Option.none : Option Jvm.ClassFile.FieldType), 1)
def mX12_take : xM := (yX12_take, prog_15_method_2_code, 3, (Option.none : Option Jvm.ClassFile.FieldType), 1)
def mX12_begin : xM := (yX12_begin, prog_15_method_3_code, 2, (Option.none : Option Jvm.ClassFile.FieldType), 1)
def mX12_add : xM := (yX12_add, prog_15_method_4_code, 3, (Option.none : Option Jvm.ClassFile.FieldType), 1)
def mX12_endRing : xM := (yX12_endRing, prog_15_method_5_code, 1, (Option.none : Option Jvm.ClassFile.FieldType), 1)
def mX12_beginOf : xM := (yX12_beginOf, prog_15_method_6_code, 2, (Option.some Jvm.ClassFile.FieldType.int), 1)
def mX12_isLike : xM := (yX12_isLike, prog_15_method_7_code, 3, (Option.some Jvm.ClassFile.FieldType.boolean), 1)
def mX12_isWay : xM := (yX12_isWay, prog_15_method_8_code, 3, (Option.some Jvm.ClassFile.FieldType.boolean), 1)
def mX12_isOpen : xM := (yX12_isOpen, prog_15_method_9_code, 1, (Option.some Jvm.ClassFile.FieldType.boolean), 2)
def mX13_init : xM := (yX13_init, prog_16_method_1_code, 2, (Option.none : Option Jvm.ClassFile.FieldType), 2)
def mX13_take : xM := (yX13_take, prog_16_method_2_code, 3, (Option.none : Option Jvm.ClassFile.FieldType), 2)
def mX13_find : xM := (yX13_find, prog_16_method_3_code, 3, (Option.some Jvm.ClassFile.FieldType.int), 1)
def mX13_add : xM := (yX13_add, prog_16_method_4_code, 5, (Option.none : Option Jvm.ClassFile.FieldType), 2)
def mX13_drop : xM := (yX13_drop, prog_16_method_5_code, 4, (Option.none : Option Jvm.ClassFile.FieldType), 1)
def mX14_set : xM := (yX14_set, prog_13_method_1_code, 6, (Option.none : Option Jvm.ClassFile.FieldType), 1)
def mX14_copy : xM := (yX14_copy, prog_13_method_2_code, 3, (Option.none : Option Jvm.ClassFile.FieldType), 1)
def mX14_times : xM := (yX14_times, prog_13_method_3_code, 9, (Option.none : Option Jvm.ClassFile.FieldType), 1)
def mX14_compare : xM := (yX14_compare, prog_13_method_4_code, 3, (Option.some Jvm.ClassFile.FieldType.int), 1)
def mX14_compare_ : xM := (yX14_compare_, prog_13_method_5_code, 9, (Option.some Jvm.ClassFile.FieldType.int), 2)
def mX14_cross : xM := (yX14_cross, prog_13_method_6_code, 8, (Option.some Jvm.ClassFile.FieldType.long), 1)
def mX14_dot : xM := (yX14_dot, prog_13_method_7_code, 8, (Option.some Jvm.ClassFile.FieldType.long), 1)
def mX14_sign : xM := (yX14_sign, prog_13_method_8_code, 2, (Option.some Jvm.ClassFile.FieldType.int), 1)
def mX14_side : xM := (yX14_side, prog_13_method_9_code, 4, (Option.some Jvm.ClassFile.FieldType.int), 2)
def mX14_isBetween : xM := (yX14_isBetween, prog_13_method_10_code, 3, (Option.some Jvm.ClassFile.FieldType.boolean), 2)
def mX14_isOn : xM := (yX14_isOn, prog_13_method_11_code, 4, (Option.some Jvm.ClassFile.FieldType.boolean), 3)
def mX14_isOnRing : xM := (yX14_isOnRing, prog_13_method_12_code, 5, (Option.some Jvm.ClassFile.FieldType.boolean), 4)
def mX14_meet : xM := (yX14_meet, prog_13_method_13_code, 8, (Option.some Jvm.ClassFile.FieldType.boolean), 4)
def mX14_locate : xM := (yX14_locate, prog_13_method_14_code, 6, (Option.some Jvm.ClassFile.FieldType.int), 4)
def mX14_isLeftRound : xM := (yX14_isLeftRound, prog_13_method_15_code, 8, (Option.some Jvm.ClassFile.FieldType.boolean), 2)
def mX14_isInteriorLeft : xM := (yX14_isInteriorLeft, prog_13_method_16_code, 2, (Option.some Jvm.ClassFile.FieldType.boolean), 3)
def mX14_ringOf : xM := (yX14_ringOf, prog_13_method_17_code, 3, (Option.some Jvm.ClassFile.FieldType.int), 1)
def mX14_meetWays : xM := (yX14_meetWays, prog_13_method_18_code, 17, (Option.none : Option Jvm.ClassFile.FieldType), 2)
def mX14_cut : xM := (yX14_cut, prog_13_method_19_code, 3, (Option.none : Option Jvm.ClassFile.FieldType), 1)
def mX14_begins : xM := (yX14_begins, prog_13_method_20_code, 12, (Option.none : Option Jvm.ClassFile.FieldType), 2)
def mX14_lookRound : xM := (yX14_lookRound, prog_13_method_21_code, 26, (Option.none : Option Jvm.ClassFile.FieldType), 3)
def mX14_goAlong : xM := (yX14_goAlong, prog_13_method_22_code, 5, (Option.none : Option Jvm.ClassFile.FieldType), 6)
def mX14_goPiece : xM := (yX14_goPiece, prog_13_method_23_code, 9, (Option.none : Option Jvm.ClassFile.FieldType), 5)
def mX14_extreme : xM := (yX14_extreme, prog_13_method_24_code, 6, (Option.some Jvm.ClassFile.FieldType.int), 2)
def mX14_areApart : xM := (yX14_areApart, prog_13_method_25_code, 3, (Option.some Jvm.ClassFile.FieldType.boolean), 3)
def mX14_intersect : xM := (yX14_intersect, prog_13_method_26_code, 4, (Option.some Jvm.ClassFile.FieldType.boolean), 5)
def mX14_overlap : xM := (yX14_overlap, prog_13_method_27_code, 3, (Option.some Jvm.ClassFile.FieldType.boolean), 8)
def mX14_overlap0 : xM := (yX14_overlap, prog_13_method_27_code, 3, (Option.some Jvm.ClassFile.FieldType.boolean), 7)
def mX14_crossInside : xM := (yX14_crossInside, prog_13_method_28_code, 5, (Option.some Jvm.ClassFile.FieldType.boolean), 6)
def mX14_isEndAt : xM := (yX14_isEndAt, prog_13_method_29_code, 6, (Option.some Jvm.ClassFile.FieldType.boolean), 4)
def mX14_isInner : xM := (yX14_isInner, prog_13_method_30_code, 4, (Option.some Jvm.ClassFile.FieldType.boolean), 5)
def mX14_isWithin : xM := (yX14_isWithin, prog_13_method_31_code, 3, (Option.some Jvm.ClassFile.FieldType.boolean), 9)
def mX14_relates : xM := (yX14_relates, prog_13_method_32_code, 4, (Option.some Jvm.ClassFile.FieldType.boolean), 10)
def mX14_takeRing : xM := (yX14_takeRing, prog_13_method_33_code, 5, (Option.none : Option Jvm.ClassFile.FieldType), 2)
def mX14_hasSteps : xM := (yX14_hasSteps, prog_13_method_34_code, 2, (Option.some Jvm.ClassFile.FieldType.boolean), 2)
def mX14_isSimple : xM := (yX14_isSimple, prog_13_method_35_code, 8, (Option.some Jvm.ClassFile.FieldType.boolean), 5)
def mX14_areRingsRight : xM := (yX14_areRingsRight, prog_13_method_36_code, 4, (Option.some Jvm.ClassFile.FieldType.boolean), 7)
def mX14_isOnePiece : xM := (yX14_isOnePiece, prog_13_method_37_code, 6, (Option.some Jvm.ClassFile.FieldType.boolean), 5)
def mX14_join : xM := (yX14_join, prog_13_method_38_code, 5, (Option.none : Option Jvm.ClassFile.FieldType), 1)
def mX14_isValid : xM := (yX14_isValid, prog_13_method_39_code, 4, (Option.some Jvm.ClassFile.FieldType.boolean), 8)
def mX14_compare__ : xM := (yX14_compare__, prog_13_method_40_code, 3, (Option.some Jvm.ClassFile.FieldType.int), 2)
def mX14_hereIs : xM := (yX14_hereIs, prog_13_method_41_code, 5, (Option.none : Option Jvm.ClassFile.FieldType), 2)
def mX14_fromPoint : xM := (yX14_fromPoint, prog_13_method_42_code, 5, (Option.none : Option Jvm.ClassFile.FieldType), 3)
def mX14_fromWay : xM := (yX14_fromWay, prog_13_method_43_code, 19, (Option.none : Option Jvm.ClassFile.FieldType), 4)
def mX14_distance : xM := (yX14_distance, prog_13_method_44_code, 6, (Option.none : Option Jvm.ClassFile.FieldType), 5)
def mX14_fall : xM := (yX14_fall, prog_13_method_45_code, 1, (Option.none : Option Jvm.ClassFile.FieldType), 1)
def mX14_isBlockWritten : xM := (yX14_isBlockWritten, prog_13_method_46_code, 1, (Option.some Jvm.ClassFile.FieldType.boolean), 2)
def mX14_isSaved : xM := (yX14_isSaved, prog_13_method_47_code, 1, (Option.some Jvm.ClassFile.FieldType.boolean), 2)
def mX14_isCommitted : xM := (yX14_isCommitted, prog_13_method_48_code, 3, (Option.some Jvm.ClassFile.FieldType.boolean), 3)
def mX14_hasRoom : xM := (yX14_hasRoom, prog_13_method_49_code, 2, (Option.some Jvm.ClassFile.FieldType.boolean), 1)
def mX14_put : xM := (yX14_put, prog_13_method_50_code, 2, (Option.none : Option Jvm.ClassFile.FieldType), 1)
def mX14_refuse : xM := (yX14_refuse, prog_13_method_51_code, 1, (Option.none : Option Jvm.ClassFile.FieldType), 1)
def mX14_byteAt : xM := (yX14_byteAt, prog_13_method_52_code, 2, (Option.some Jvm.ClassFile.FieldType.int), 1)
def mX14_isGreat : xM := (yX14_isGreat, prog_13_method_53_code, 1, (Option.some Jvm.ClassFile.FieldType.boolean), 1)
def mX14_isDigit : xM := (yX14_isDigit, prog_13_method_54_code, 1, (Option.some Jvm.ClassFile.FieldType.boolean), 1)
def mX14_next : xM := (yX14_next, prog_13_method_55_code, 2, (Option.none : Option Jvm.ClassFile.FieldType), 3)
def mX14_readNumber : xM := (yX14_readNumber, prog_13_method_56_code, 5, (Option.none : Option Jvm.ClassFile.FieldType), 2)
def mX14_isWord : xM := (yX14_isWord, prog_13_method_57_code, 3, (Option.some Jvm.ClassFile.FieldType.boolean), 6)
def mX14_isSign : xM := (yX14_isSign, prog_13_method_58_code, 2, (Option.some Jvm.ClassFile.FieldType.boolean), 1)
def mX14_expect : xM := (yX14_expect, prog_13_method_59_code, 2, (Option.none : Option Jvm.ClassFile.FieldType), 4)
def mX14_readInt : xM := (yX14_readInt, prog_13_method_60_code, 2, (Option.some Jvm.ClassFile.FieldType.int), 4)
def mX14_readPlace : xM := (yX14_readPlace, prog_13_method_61_code, 3, (Option.none : Option Jvm.ClassFile.FieldType), 5)
def mX14_readPlaceRow : xM := (yX14_readPlaceRow, prog_13_method_62_code, 1, (Option.none : Option Jvm.ClassFile.FieldType), 6)
def mX14_readShape : xM := (yX14_readShape, prog_13_method_63_code, 3, (Option.none : Option Jvm.ClassFile.FieldType), 7)
def mX14_isTooGreat : xM := (yX14_isTooGreat, prog_13_method_64_code, 1, (Option.some Jvm.ClassFile.FieldType.boolean), 1)
def mX14_init : xM := (yX14_init, prog_13_method_65_code, 2, (Option.none : Option Jvm.ClassFile.FieldType), 3)
def mX14_readInts : xM := (yX14_readInts, prog_13_method_66_code, 3, (Option.none : Option Jvm.ClassFile.FieldType), 5)
def mX14_relationHere : xM := (yX14_relationHere, prog_13_method_67_code, 2, (Option.some Jvm.ClassFile.FieldType.int), 7)
def mX14_statement : xM := (yX14_statement, prog_13_method_68_code, 2, (Option.none : Option Jvm.ClassFile.FieldType), 12)
def mX14_readPlain : xM := (yX14_readPlain, prog_13_method_69_code, 2, (Option.none : Option Jvm.ClassFile.FieldType), 7)
def mX14_readFill : xM := (yX14_readFill, prog_13_method_70_code, 3, (Option.none : Option Jvm.ClassFile.FieldType), 7)
def mX14_changed : xM := (yX14_changed, prog_13_method_71_code, 2, (Option.none : Option Jvm.ClassFile.FieldType), 4)
def mX14_add : xM := (yX14_add, prog_13_method_72_code, 3, (Option.none : Option Jvm.ClassFile.FieldType), 9)
def mX14_drop : xM := (yX14_drop, prog_13_method_73_code, 3, (Option.none : Option Jvm.ClassFile.FieldType), 5)
def mX14_isNumber : xM := (yX14_isNumber, prog_13_method_74_code, 2, (Option.some Jvm.ClassFile.FieldType.boolean), 1)
def mX14_move : xM := (yX14_move, prog_13_method_75_code, 8, (Option.none : Option Jvm.ClassFile.FieldType), 5)
def mX14_draw : xM := (yX14_draw, prog_13_method_76_code, 2, (Option.some Jvm.ClassFile.FieldType.int), 1)
def mX14_fill : xM := (yX14_fill, prog_13_method_77_code, 10, (Option.none : Option Jvm.ClassFile.FieldType), 5)
def mX14_made : xM := (yX14_made, prog_13_method_78_code, 9, (Option.none : Option Jvm.ClassFile.FieldType), 2)
def mX14_beginAnswers : xM := (yX14_beginAnswers, prog_13_method_79_code, 1, (Option.none : Option Jvm.ClassFile.FieldType), 1)
def mX14_answer : xM := (yX14_answer, prog_13_method_80_code, 2, (Option.none : Option Jvm.ClassFile.FieldType), 1)
def mX14_endAnswers : xM := (yX14_endAnswers, prog_13_method_81_code, 2, (Option.none : Option Jvm.ClassFile.FieldType), 2)
def mX14_find : xM := (yX14_find, prog_13_method_82_code, 3, (Option.none : Option Jvm.ClassFile.FieldType), 11)
def mX14_windowOf : xM := (yX14_windowOf, prog_13_method_83_code, 7, (Option.none : Option Jvm.ClassFile.FieldType), 6)
def mX14_near : xM := (yX14_near, prog_13_method_84_code, 6, (Option.none : Option Jvm.ClassFile.FieldType), 6)
def mX14_joinOf : xM := (yX14_joinOf, prog_13_method_85_code, 10, (Option.none : Option Jvm.ClassFile.FieldType), 11)
def mX14_lay : xM := (yX14_lay, prog_13_method_86_code, 4, (Option.none : Option Jvm.ClassFile.FieldType), 1)
def mX14_feed : xM := (yX14_feed, prog_13_method_87_code, 11, (Option.some Jvm.ClassFile.FieldType.int), 2)
def mX14_end : xM := (yX14_end, prog_13_method_88_code, 2, (Option.some Jvm.ClassFile.FieldType.int), 1)
def mX14_run : xM := (yX14_run, prog_13_method_89_code, 2, (Option.some Jvm.ClassFile.FieldType.int), 13)
def mX14_wrong : xM := (yX14_wrong, prog_13_method_90_code, 1, (Option.some Jvm.ClassFile.FieldType.int), 1)
def mX14_outputs : xM := (yX14_outputs, prog_13_method_91_code, 1, (Option.some Jvm.ClassFile.FieldType.int), 1)
def mX14_out : xM := (yX14_out, prog_13_method_92_code, 2, (Option.some Jvm.ClassFile.FieldType.int), 1)
def mX14_crash : xM := (yX14_crash, prog_13_method_93_code, 4, (Option.some Jvm.ClassFile.FieldType.boolean), 1)
def mX14_recover : xM := (yX14_recover, prog_13_method_94_code, 1, (Option.some Jvm.ClassFile.FieldType.int), 3)
def mX14_isDown : xM := (yX14_isDown, prog_13_method_95_code, 1, (Option.some Jvm.ClassFile.FieldType.boolean), 1)
def mX14_isOpen : xM := (yX14_isOpen, prog_13_method_96_code, 1, (Option.some Jvm.ClassFile.FieldType.boolean), 1)
def mX14_live : xM := (yX14_live, prog_13_method_97_code, 1, (Option.some Jvm.ClassFile.FieldType.int), 1)
def mX14_idAt : xM := (yX14_idAt, prog_13_method_98_code, 2, (Option.some Jvm.ClassFile.FieldType.int), 1)
def mX14_standing : xM := (yX14_standing, prog_13_method_99_code, 2, (Option.some Jvm.ClassFile.FieldType.int), 2)
def mX14_kindOf : xM := (yX14_kindOf, prog_13_method_100_code, 3, (Option.some Jvm.ClassFile.FieldType.int), 3)
def mX14_places : xM := (yX14_places, prog_13_method_101_code, 3, (Option.some Jvm.ClassFile.FieldType.int), 3)
def mX14_rings : xM := (yX14_rings, prog_13_method_102_code, 3, (Option.some Jvm.ClassFile.FieldType.int), 3)
def mX14_at : xM := (yX14_at, prog_13_method_103_code, 5, (Option.some Jvm.ClassFile.FieldType.int), 3)
def mX14_relate : xM := (yX14_relate, prog_13_method_104_code, 6, (Option.some Jvm.ClassFile.FieldType.int), 11)
def mX14_nearer : xM := (yX14_nearer, prog_13_method_105_code, 7, (Option.some Jvm.ClassFile.FieldType.int), 6)
def mX14_used : xM := (yX14_used, prog_13_method_106_code, 1, (Option.some Jvm.ClassFile.FieldType.int), 1)
def mX14_saves : xM := (yX14_saves, prog_13_method_107_code, 1, (Option.some Jvm.ClassFile.FieldType.int), 1)
def mX14_flaws : xM := (yX14_flaws, prog_13_method_108_code, 1, (Option.some Jvm.ClassFile.FieldType.int), 1)
def mJ13_compare_74951 : xM := (yJ13_compare_74951, prog_17_method_42_code, 4, (Option.some Jvm.ClassFile.FieldType.int), 1)
def mJ9_max_7cf53 : xM := (yJ9_max_7cf53, prog_18_method_65_code, 2, (Option.some Jvm.ClassFile.FieldType.int), 1)
def mJ9_max_f86c9 : xM := (yJ9_max_f86c9, prog_18_method_66_code, 4, (Option.some Jvm.ClassFile.FieldType.long), 1)
def mJ9_min_7cf53 : xM := (yJ9_min_7cf53, prog_18_method_69_code, 2, (Option.some Jvm.ClassFile.FieldType.int), 1)
def mJ9_min_f86c9 : xM := (yJ9_min_f86c9, prog_18_method_70_code, 4, (Option.some Jvm.ClassFile.FieldType.long), 1)
def mJ0_length_8abf5 : xM := (yJ0_length_8abf5, prog_19_method_54_code, 1, (Option.some Jvm.ClassFile.FieldType.int), 2)
def mJ0_charAt_5068e : xM := (yJ0_charAt_5068e, prog_19_method_56_code, 2, (Option.some Jvm.ClassFile.FieldType.char), 5)
def mJ0_coder_7d493 : xM := (yJ0_coder_7d493, prog_19_method_152_code, 1, (Option.some Jvm.ClassFile.FieldType.byte), 1)
def mJ0_isLatin1_aae02 : xM := (yJ0_isLatin1_aae02, prog_19_method_154_code, 1, (Option.some Jvm.ClassFile.FieldType.boolean), 1)
def mJ0_checkIndex_df160 : xM := (yJ0_checkIndex_df160, prog_19_method_155_code, 2, (Option.none : Option Jvm.ClassFile.FieldType), 2)
def mJ1_charAt_3b067 : xM := (yJ1_charAt_3b067, prog_20_method_2_code, 2, (Option.some Jvm.ClassFile.FieldType.char), 3)
def mJ2_getChar_3b067 : xM := (yJ2_getChar_3b067, prog_21_method_5_code, 2, (Option.some Jvm.ClassFile.FieldType.char), 2)
def mJ2_length_9d52b : xM := (yJ2_length_9d52b, prog_21_method_6_code, 1, (Option.some Jvm.ClassFile.FieldType.int), 1)
def mJ2_charAt_3b067 : xM := (yJ2_charAt_3b067, prog_21_method_83_code, 2, (Option.some Jvm.ClassFile.FieldType.char), 4)
def mJ2_checkIndex_2214a : xM := (yJ2_checkIndex_2214a, prog_21_method_91_code, 2, (Option.none : Option Jvm.ClassFile.FieldType), 3)
def mJ3_checkIndex_8e157 : xM := (yJ3_checkIndex_8e157, prog_22_method_11_code, 3, (Option.some Jvm.ClassFile.FieldType.int), 1)
def mL_law : xM := (⟨"LandBaseLaw", "law", "([I)Z"⟩, code, 4, some .boolean, 14)
theorem tb_in_1 {w : Cond} (h : w ∈ tables_1_1) : w ∈ lw_tbl := List.mem_append_right _ (List.mem_append_left _ h)
theorem tb_in_2 {w : Cond} (h : w ∈ tables_1_2) : w ∈ lw_tbl := List.mem_append_right _ (List.mem_append_right _ (List.mem_append_left _ h))
theorem tb_in_3 {w : Cond} (h : w ∈ tables_1_3) : w ∈ lw_tbl := List.mem_append_right _ (List.mem_append_right _ (List.mem_append_right _ (List.mem_append_left _ h)))
theorem tb_in_4 {w : Cond} (h : w ∈ tables_1_4) : w ∈ lw_tbl := List.mem_append_right _ (List.mem_append_right _ (List.mem_append_right _ (List.mem_append_right _ (List.mem_append_left _ h))))
theorem tb_in_5 {w : Cond} (h : w ∈ tables_1_5) : w ∈ lw_tbl := List.mem_append_right _ (List.mem_append_right _ (List.mem_append_right _ (List.mem_append_right _ (List.mem_append_right _ (List.mem_append_left _ h)))))
theorem tb_in_6 {w : Cond} (h : w ∈ tables_1_6) : w ∈ lw_tbl := List.mem_append_right _ (List.mem_append_right _ (List.mem_append_right _ (List.mem_append_right _ (List.mem_append_right _ (List.mem_append_right _ (List.mem_append_left _ h))))))
theorem tb_in_7 {w : Cond} (h : w ∈ tables_1_7) : w ∈ lw_tbl := List.mem_append_right _ (List.mem_append_right _ (List.mem_append_right _ (List.mem_append_right _ (List.mem_append_right _ (List.mem_append_right _ (List.mem_append_right _ (List.mem_append_left _ h)))))))
theorem tb_in_8 {w : Cond} (h : w ∈ tables_1_8) : w ∈ lw_tbl := List.mem_append_right _ (List.mem_append_right _ (List.mem_append_right _ (List.mem_append_right _ (List.mem_append_right _ (List.mem_append_right _ (List.mem_append_right _ (List.mem_append_right _ (h))))))))
end
section
theorem wd_1 : (Jvm.Cond.initialized "LandBase") ∈ xW := xW_in (tb_in_1 (List.mem_of_getElem? (i := 1) (by decide +kernel))) rfl
theorem wd_2 : (Jvm.Cond.initialized "LandBase$Tape") ∈ xW := xW_in (tb_in_1 (List.mem_of_getElem? (i := 2) (by decide +kernel))) rfl
theorem wd_3 : (Jvm.Cond.initialized "LandBase$Reader") ∈ xW := xW_in (tb_in_1 (List.mem_of_getElem? (i := 3) (by decide +kernel))) rfl
theorem wd_4 : (Jvm.Cond.initialized "LandBase$Shape") ∈ xW := xW_in (tb_in_1 (List.mem_of_getElem? (i := 4) (by decide +kernel))) rfl
theorem wd_5 : (Jvm.Cond.initialized "LandBase$Keeper") ∈ xW := xW_in (tb_in_1 (List.mem_of_getElem? (i := 5) (by decide +kernel))) rfl
theorem wd_6 : (Jvm.Cond.initialized "LandBase$Table") ∈ xW := xW_in (tb_in_1 (List.mem_of_getElem? (i := 6) (by decide +kernel))) rfl
theorem wd_7 : (Jvm.Cond.initialized "LandBase$Cutter") ∈ xW := xW_in (tb_in_1 (List.mem_of_getElem? (i := 7) (by decide +kernel))) rfl
theorem wd_8 : (Jvm.Cond.initialized "LandBase$Checker") ∈ xW := xW_in (tb_in_1 (List.mem_of_getElem? (i := 8) (by decide +kernel))) rfl
theorem wd_9 : (Jvm.Cond.initialized "LandBase$Relations") ∈ xW := xW_in (tb_in_1 (List.mem_of_getElem? (i := 9) (by decide +kernel))) rfl
theorem wd_10 : (Jvm.Cond.initialized "LandBase$Distance") ∈ xW := xW_in (tb_in_1 (List.mem_of_getElem? (i := 10) (by decide +kernel))) rfl
theorem wd_11 : (Jvm.Cond.initialized "LandBaseModel") ∈ xW := xW_in (tb_in_1 (List.mem_of_getElem? (i := 11) (by decide +kernel))) rfl
theorem wd_12 : (Jvm.Cond.initialized "LandBaseModel$Shape") ∈ xW := xW_in (tb_in_1 (List.mem_of_getElem? (i := 12) (by decide +kernel))) rfl
theorem wd_13 : (Jvm.Cond.initialized "LandBaseModel$Distance") ∈ xW := xW_in (tb_in_1 (List.mem_of_getElem? (i := 13) (by decide +kernel))) rfl
theorem wd_14 : (Jvm.Cond.initialized "LandBaseModel$State") ∈ xW := xW_in (tb_in_1 (List.mem_of_getElem? (i := 14) (by decide +kernel))) rfl
theorem wd_22 : (Jvm.Cond.classLink "LandBaseLaw" (7 : Nat) "LandBase") ∈ xW := xW_in (tb_in_1 (List.mem_of_getElem? (i := 22) (by decide +kernel))) rfl
theorem wd_23 : (Jvm.Cond.instantiable "LandBase" (11 : Nat)) ∈ xW := xW_in (tb_in_1 (List.mem_of_getElem? (i := 23) (by decide +kernel))) rfl
theorem wd_24 : (Jvm.Cond.methodLink "LandBaseLaw" (9 : Nat) ({ cls := "LandBase", name := "<init>", desc := "()V" } : Jvm.MethodName)) ∈ xW := xW_in (tb_in_1 (List.mem_of_getElem? (i := 24) (by decide +kernel))) rfl
theorem wd_25 : (Jvm.Cond.instanceMethod ({ cls := "LandBase", name := "<init>", desc := "()V" } : Jvm.MethodName)) ∈ xW := xW_in (tb_in_1 (List.mem_of_getElem? (i := 25) (by decide +kernel))) rfl
theorem wd_26 : (Jvm.Cond.code ({ cls := "LandBase", name := "<init>", desc := "()V" } : Jvm.MethodName) prog_1_method_1_code (3 : Nat) (Option.none : Option Jvm.ClassFile.FieldType)) ∈ xW := xW_in (tb_in_1 (List.mem_of_getElem? (i := 26) rfl)) rfl
theorem wd_27 : (Jvm.Cond.methodLink "LandBase" (1 : Nat) ({ cls := "java/lang/Object", name := "<init>", desc := "()V" } : Jvm.MethodName)) ∈ xW := xW_in (tb_in_1 (List.mem_of_getElem? (i := 27) (by decide +kernel))) rfl
theorem wd_28 : (Jvm.Cond.instanceMethod ({ cls := "java/lang/Object", name := "<init>", desc := "()V" } : Jvm.MethodName)) ∈ xW := xW_in (tb_in_1 (List.mem_of_getElem? (i := 28) (by decide +kernel))) rfl
theorem wd_29 : (Jvm.Cond.code ({ cls := "java/lang/Object", name := "<init>", desc := "()V" } : Jvm.MethodName) object_method_1_code (1 : Nat) (Option.none : Option Jvm.ClassFile.FieldType)) ∈ xW := xW_in (tb_in_1 (List.mem_of_getElem? (i := 29) rfl)) rfl
theorem wd_30 : (Jvm.Cond.classLink "LandBase" (7 : Nat) "LandBase$Tape") ∈ xW := xW_in (tb_in_1 (List.mem_of_getElem? (i := 30) (by decide +kernel))) rfl
theorem wd_31 : (Jvm.Cond.instantiable "LandBase$Tape" (6 : Nat)) ∈ xW := xW_in (tb_in_1 (List.mem_of_getElem? (i := 31) (by decide +kernel))) rfl
theorem wd_32 : (Jvm.Cond.methodLink "LandBase" (9 : Nat) ({ cls := "LandBase$Tape", name := "<init>", desc := "()V" } : Jvm.MethodName)) ∈ xW := xW_in (tb_in_1 (List.mem_of_getElem? (i := 32) (by decide +kernel))) rfl
theorem wd_33 : (Jvm.Cond.instanceMethod ({ cls := "LandBase$Tape", name := "<init>", desc := "()V" } : Jvm.MethodName)) ∈ xW := xW_in (tb_in_1 (List.mem_of_getElem? (i := 33) (by decide +kernel))) rfl
theorem wd_34 : (Jvm.Cond.code ({ cls := "LandBase$Tape", name := "<init>", desc := "()V" } : Jvm.MethodName) prog_11_method_1_code (1 : Nat) (Option.none : Option Jvm.ClassFile.FieldType)) ∈ xW := xW_in (tb_in_1 (List.mem_of_getElem? (i := 34) rfl)) rfl
theorem wd_35 : (Jvm.Cond.methodLink "LandBase$Tape" (3 : Nat) ({ cls := "java/lang/Object", name := "<init>", desc := "()V" } : Jvm.MethodName)) ∈ xW := xW_in (tb_in_1 (List.mem_of_getElem? (i := 35) (by decide +kernel))) rfl
theorem wd_36 : (Jvm.Cond.fieldLink "LandBase$Tape" (9 : Nat) "LandBase$Tape" "bytes" "[B") ∈ xW := xW_in (tb_in_1 (List.mem_of_getElem? (i := 36) (by decide +kernel))) rfl
theorem wd_37 : (Jvm.Cond.fieldLink "LandBase$Tape" (15 : Nat) "LandBase$Tape" "size" "I") ∈ xW := xW_in (tb_in_1 (List.mem_of_getElem? (i := 37) (by decide +kernel))) rfl
theorem wd_38 : (Jvm.Cond.fieldLinkNest "LandBase" (73 : Nat) "LandBase$Tape" "size" "I" "LandBase") ∈ xN := xN_in (tb_in_1 (List.mem_of_getElem? (i := 38) (by decide +kernel))) rfl
theorem wd_40 : (Jvm.Cond.fieldLinkNest "LandBase" (87 : Nat) "LandBase$Tape" "tokenKind" "I" "LandBase") ∈ xN := xN_in (tb_in_1 (List.mem_of_getElem? (i := 40) (by decide +kernel))) rfl
theorem wd_41 : (Jvm.Cond.fieldLink "LandBase$Tape" (28 : Nat) "LandBase$Tape" "tokenKind" "I") ∈ xW := xW_in (tb_in_1 (List.mem_of_getElem? (i := 41) (by decide +kernel))) rfl
theorem wd_43 : (Jvm.Cond.fieldLink "LandBase$Tape" (25 : Nat) "LandBase$Tape" "tokenFirst" "I") ∈ xW := xW_in (tb_in_1 (List.mem_of_getElem? (i := 43) (by decide +kernel))) rfl
theorem wd_44 : (Jvm.Cond.fieldLink "LandBase$Tape" (19 : Nat) "LandBase$Tape" "tokenNext" "I") ∈ xW := xW_in (tb_in_1 (List.mem_of_getElem? (i := 44) (by decide +kernel))) rfl
theorem wd_60 : (Jvm.Cond.arrayClass Jvm.ClassFile.FieldType.byte) ∈ xW := xW_in (tb_in_1 (List.mem_of_getElem? (i := 60) (by decide +kernel))) rfl
theorem wd_61 : (Jvm.Cond.classLink "LandBase" (16 : Nat) "LandBase$Reader") ∈ xW := xW_in (tb_in_1 (List.mem_of_getElem? (i := 61) (by decide +kernel))) rfl
theorem wd_62 : (Jvm.Cond.instantiable "LandBase$Reader" (6 : Nat)) ∈ xW := xW_in (tb_in_1 (List.mem_of_getElem? (i := 62) (by decide +kernel))) rfl
theorem wd_63 : (Jvm.Cond.methodLink "LandBase" (18 : Nat) ({ cls := "LandBase$Reader", name := "<init>", desc := "()V" } : Jvm.MethodName)) ∈ xW := xW_in (tb_in_1 (List.mem_of_getElem? (i := 63) (by decide +kernel))) rfl
theorem wd_64 : (Jvm.Cond.instanceMethod ({ cls := "LandBase$Reader", name := "<init>", desc := "()V" } : Jvm.MethodName)) ∈ xW := xW_in (tb_in_1 (List.mem_of_getElem? (i := 64) (by decide +kernel))) rfl
theorem wd_65 : (Jvm.Cond.code ({ cls := "LandBase$Reader", name := "<init>", desc := "()V" } : Jvm.MethodName) prog_7_method_1_code (1 : Nat) (Option.none : Option Jvm.ClassFile.FieldType)) ∈ xW := xW_in (tb_in_1 (List.mem_of_getElem? (i := 65) rfl)) rfl
theorem wd_66 : (Jvm.Cond.methodLink "LandBase$Reader" (3 : Nat) ({ cls := "java/lang/Object", name := "<init>", desc := "()V" } : Jvm.MethodName)) ∈ xW := xW_in (tb_in_1 (List.mem_of_getElem? (i := 66) (by decide +kernel))) rfl
theorem wd_67 : (Jvm.Cond.classLink "LandBase$Reader" (15 : Nat) "LandBase$Shape") ∈ xW := xW_in (tb_in_1 (List.mem_of_getElem? (i := 67) (by decide +kernel))) rfl
theorem wd_68 : (Jvm.Cond.instantiable "LandBase$Shape" (13 : Nat)) ∈ xW := xW_in (tb_in_1 (List.mem_of_getElem? (i := 68) (by decide +kernel))) rfl
theorem wd_69 : (Jvm.Cond.methodLink "LandBase$Reader" (17 : Nat) ({ cls := "LandBase$Shape", name := "<init>", desc := "()V" } : Jvm.MethodName)) ∈ xW := xW_in (tb_in_1 (List.mem_of_getElem? (i := 69) (by decide +kernel))) rfl
theorem wd_70 : (Jvm.Cond.instanceMethod ({ cls := "LandBase$Shape", name := "<init>", desc := "()V" } : Jvm.MethodName)) ∈ xW := xW_in (tb_in_1 (List.mem_of_getElem? (i := 70) (by decide +kernel))) rfl
theorem wd_71 : (Jvm.Cond.code ({ cls := "LandBase$Shape", name := "<init>", desc := "()V" } : Jvm.MethodName) prog_9_method_1_code (1 : Nat) (Option.none : Option Jvm.ClassFile.FieldType)) ∈ xW := xW_in (tb_in_1 (List.mem_of_getElem? (i := 71) rfl)) rfl
theorem wd_72 : (Jvm.Cond.methodLink "LandBase$Shape" (3 : Nat) ({ cls := "java/lang/Object", name := "<init>", desc := "()V" } : Jvm.MethodName)) ∈ xW := xW_in (tb_in_1 (List.mem_of_getElem? (i := 72) (by decide +kernel))) rfl
theorem wd_78 : (Jvm.Cond.fieldLinkNest "LandBase" (164 : Nat) "LandBase$Shape" "kind" "I" "LandBase") ∈ xN := xN_in (tb_in_1 (List.mem_of_getElem? (i := 78) (by decide +kernel))) rfl
theorem wd_86 : (Jvm.Cond.fieldLinkNest "LandBase" (169 : Nat) "LandBase$Shape" "size" "I" "LandBase") ∈ xN := xN_in (tb_in_1 (List.mem_of_getElem? (i := 86) (by decide +kernel))) rfl
theorem wd_89 : (Jvm.Cond.fieldLinkNest "LandBase" (170 : Nat) "LandBase$Shape" "ringCount" "I" "LandBase") ∈ xN := xN_in (tb_in_1 (List.mem_of_getElem? (i := 89) (by decide +kernel))) rfl
theorem wd_102 : (Jvm.Cond.fieldLink "LandBase$Shape" (9 : Nat) "LandBase$Shape" "x" "[I") ∈ xW := xW_in (tb_in_1 (List.mem_of_getElem? (i := 102) (by decide +kernel))) rfl
theorem wd_109 : (Jvm.Cond.fieldLink "LandBase$Shape" (15 : Nat) "LandBase$Shape" "y" "[I") ∈ xW := xW_in (tb_in_1 (List.mem_of_getElem? (i := 109) (by decide +kernel))) rfl
theorem wd_116 : (Jvm.Cond.fieldLink "LandBase$Shape" (18 : Nat) "LandBase$Shape" "ringStop" "[I") ∈ xW := xW_in (tb_in_1 (List.mem_of_getElem? (i := 116) (by decide +kernel))) rfl
theorem wd_118 : (Jvm.Cond.fieldLink "LandBase$Shape" (21 : Nat) "LandBase$Shape" "isLast" "[Z") ∈ xW := xW_in (tb_in_1 (List.mem_of_getElem? (i := 118) (by decide +kernel))) rfl
theorem wd_149 : (Jvm.Cond.arrayClass Jvm.ClassFile.FieldType.int) ∈ xW := xW_in (tb_in_1 (List.mem_of_getElem? (i := 149) (by decide +kernel))) rfl
theorem wd_150 : (Jvm.Cond.arrayClass Jvm.ClassFile.FieldType.boolean) ∈ xW := xW_in (tb_in_1 (List.mem_of_getElem? (i := 150) (by decide +kernel))) rfl
theorem wd_151 : (Jvm.Cond.fieldLink "LandBase$Reader" (11 : Nat) "LandBase$Reader" "numbers" "[I") ∈ xW := xW_in (tb_in_1 (List.mem_of_getElem? (i := 151) (by decide +kernel))) rfl
theorem wd_153 : (Jvm.Cond.fieldLink "LandBase$Reader" (18 : Nat) "LandBase$Reader" "shape" "LLandBase$Shape;") ∈ xW := xW_in (tb_in_1 (List.mem_of_getElem? (i := 153) (by decide +kernel))) rfl
theorem wd_175 : (Jvm.Cond.classLink "LandBase" (23 : Nat) "LandBase$Keeper") ∈ xW := xW_in (tb_in_1 (List.mem_of_getElem? (i := 175) (by decide +kernel))) rfl
theorem wd_176 : (Jvm.Cond.instantiable "LandBase$Keeper" (12 : Nat)) ∈ xW := xW_in (tb_in_1 (List.mem_of_getElem? (i := 176) (by decide +kernel))) rfl
theorem wd_177 : (Jvm.Cond.methodLink "LandBase" (25 : Nat) ({ cls := "LandBase$Keeper", name := "<init>", desc := "()V" } : Jvm.MethodName)) ∈ xW := xW_in (tb_in_1 (List.mem_of_getElem? (i := 177) (by decide +kernel))) rfl
theorem wd_178 : (Jvm.Cond.instanceMethod ({ cls := "LandBase$Keeper", name := "<init>", desc := "()V" } : Jvm.MethodName)) ∈ xW := xW_in (tb_in_1 (List.mem_of_getElem? (i := 178) (by decide +kernel))) rfl
theorem wd_179 : (Jvm.Cond.code ({ cls := "LandBase$Keeper", name := "<init>", desc := "()V" } : Jvm.MethodName) prog_5_method_1_code (1 : Nat) (Option.none : Option Jvm.ClassFile.FieldType)) ∈ xW := xW_in (tb_in_1 (List.mem_of_getElem? (i := 179) rfl)) rfl
theorem wd_180 : (Jvm.Cond.methodLink "LandBase$Keeper" (3 : Nat) ({ cls := "java/lang/Object", name := "<init>", desc := "()V" } : Jvm.MethodName)) ∈ xW := xW_in (tb_in_1 (List.mem_of_getElem? (i := 180) (by decide +kernel))) rfl
theorem wd_181 : (Jvm.Cond.classLink "LandBase$Keeper" (9 : Nat) "LandBase$Table") ∈ xW := xW_in (tb_in_1 (List.mem_of_getElem? (i := 181) (by decide +kernel))) rfl
theorem wd_182 : (Jvm.Cond.instantiable "LandBase$Table" (3 : Nat)) ∈ xW := xW_in (tb_in_1 (List.mem_of_getElem? (i := 182) (by decide +kernel))) rfl
theorem wd_183 : (Jvm.Cond.methodLink "LandBase$Keeper" (11 : Nat) ({ cls := "LandBase$Table", name := "<init>", desc := "()V" } : Jvm.MethodName)) ∈ xW := xW_in (tb_in_1 (List.mem_of_getElem? (i := 183) (by decide +kernel))) rfl
theorem wd_184 : (Jvm.Cond.instanceMethod ({ cls := "LandBase$Table", name := "<init>", desc := "()V" } : Jvm.MethodName)) ∈ xW := xW_in (tb_in_1 (List.mem_of_getElem? (i := 184) (by decide +kernel))) rfl
theorem wd_185 : (Jvm.Cond.code ({ cls := "LandBase$Table", name := "<init>", desc := "()V" } : Jvm.MethodName) prog_10_method_1_code (1 : Nat) (Option.none : Option Jvm.ClassFile.FieldType)) ∈ xW := xW_in (tb_in_1 (List.mem_of_getElem? (i := 185) rfl)) rfl
theorem wd_186 : (Jvm.Cond.methodLink "LandBase$Table" (3 : Nat) ({ cls := "java/lang/Object", name := "<init>", desc := "()V" } : Jvm.MethodName)) ∈ xW := xW_in (tb_in_1 (List.mem_of_getElem? (i := 186) (by decide +kernel))) rfl
theorem wd_187 : (Jvm.Cond.classLink "LandBase$Table" (15 : Nat) "LandBase$Shape") ∈ xW := xW_in (tb_in_1 (List.mem_of_getElem? (i := 187) (by decide +kernel))) rfl
theorem wd_189 : (Jvm.Cond.fieldLink "LandBase$Table" (9 : Nat) "LandBase$Table" "ids" "[I") ∈ xW := xW_in (tb_in_1 (List.mem_of_getElem? (i := 189) (by decide +kernel))) rfl
theorem wd_190 : (Jvm.Cond.fieldLinkNest "LandBase" (157 : Nat) "LandBase$Table" "ids" "[I" "LandBase") ∈ xN := xN_in (tb_in_1 (List.mem_of_getElem? (i := 190) (by decide +kernel))) rfl
theorem wd_191 : (Jvm.Cond.fieldLink "LandBase$Table" (17 : Nat) "LandBase$Table" "shapes" "[LLandBase$Shape;") ∈ xW := xW_in (tb_in_1 (List.mem_of_getElem? (i := 191) (by decide +kernel))) rfl
theorem wd_193 : (Jvm.Cond.fieldLink "LandBase$Table" (21 : Nat) "LandBase$Table" "count" "I") ∈ xW := xW_in (tb_in_1 (List.mem_of_getElem? (i := 193) (by decide +kernel))) rfl
theorem wd_194 : (Jvm.Cond.fieldLinkNest "LandBase" (149 : Nat) "LandBase$Table" "count" "I" "LandBase") ∈ xN := xN_in (tb_in_1 (List.mem_of_getElem? (i := 194) (by decide +kernel))) rfl
theorem wd_195 : (Jvm.Cond.fieldLinkNest "LandBase$Keeper" (84 : Nat) "LandBase$Table" "count" "I" "LandBase") ∈ xN := xN_in (tb_in_1 (List.mem_of_getElem? (i := 195) (by decide +kernel))) rfl
theorem wd_203 : (Jvm.Cond.classLink "LandBase$Keeper" (21 : Nat) "LandBase$Shape") ∈ xW := xW_in (tb_in_1 (List.mem_of_getElem? (i := 203) (by decide +kernel))) rfl
theorem wd_204 : (Jvm.Cond.fieldLink "LandBase$Keeper" (12 : Nat) "LandBase$Keeper" "current" "LLandBase$Table;") ∈ xW := xW_in (tb_in_1 (List.mem_of_getElem? (i := 204) (by decide +kernel))) rfl
theorem wd_205 : (Jvm.Cond.fieldLinkNest "LandBase" (145 : Nat) "LandBase$Keeper" "current" "LLandBase$Table;" "LandBase") ∈ xN := xN_in (tb_in_1 (List.mem_of_getElem? (i := 205) (by decide +kernel))) rfl
theorem wd_206 : (Jvm.Cond.fieldLink "LandBase$Keeper" (18 : Nat) "LandBase$Keeper" "committed" "LLandBase$Table;") ∈ xW := xW_in (tb_in_1 (List.mem_of_getElem? (i := 206) (by decide +kernel))) rfl
theorem wd_207 : (Jvm.Cond.fieldLink "LandBase$Keeper" (23 : Nat) "LandBase$Keeper" "pool" "[LLandBase$Shape;") ∈ xW := xW_in (tb_in_1 (List.mem_of_getElem? (i := 207) (by decide +kernel))) rfl
theorem wd_210 : (Jvm.Cond.fieldLink "LandBase$Keeper" (41 : Nat) "LandBase$Keeper" "open" "Z") ∈ xW := xW_in (tb_in_1 (List.mem_of_getElem? (i := 210) (by decide +kernel))) rfl
theorem wd_211 : (Jvm.Cond.fieldLinkNest "LandBase" (154 : Nat) "LandBase$Keeper" "open" "Z" "LandBase") ∈ xN := xN_in (tb_in_1 (List.mem_of_getElem? (i := 211) (by decide +kernel))) rfl
theorem wd_212 : (Jvm.Cond.fieldLinkNest "LandBase" (80 : Nat) "LandBase$Keeper" "down" "Z" "LandBase") ∈ xN := xN_in (tb_in_1 (List.mem_of_getElem? (i := 212) (by decide +kernel))) rfl
theorem wd_213 : (Jvm.Cond.fieldLink "LandBase$Keeper" (75 : Nat) "LandBase$Keeper" "down" "Z") ∈ xW := xW_in (tb_in_1 (List.mem_of_getElem? (i := 213) (by decide +kernel))) rfl
theorem wd_214 : (Jvm.Cond.fieldLink "LandBase$Keeper" (45 : Nat) "LandBase$Keeper" "bytes" "I") ∈ xW := xW_in (tb_in_1 (List.mem_of_getElem? (i := 214) (by decide +kernel))) rfl
theorem wd_215 : (Jvm.Cond.fieldLink "LandBase$Keeper" (69 : Nat) "LandBase$Keeper" "blocks" "I") ∈ xW := xW_in (tb_in_1 (List.mem_of_getElem? (i := 215) (by decide +kernel))) rfl
theorem wd_216 : (Jvm.Cond.fieldLinkNest "LandBase" (195 : Nat) "LandBase$Keeper" "blocks" "I" "LandBase") ∈ xN := xN_in (tb_in_1 (List.mem_of_getElem? (i := 216) (by decide +kernel))) rfl
theorem wd_218 : (Jvm.Cond.fieldLinkNest "LandBase" (198 : Nat) "LandBase$Keeper" "saveCount" "I" "LandBase") ∈ xN := xN_in (tb_in_1 (List.mem_of_getElem? (i := 218) (by decide +kernel))) rfl
theorem wd_219 : (Jvm.Cond.fieldLink "LandBase$Keeper" (27 : Nat) "LandBase$Keeper" "crashKind" "I") ∈ xW := xW_in (tb_in_1 (List.mem_of_getElem? (i := 219) (by decide +kernel))) rfl
theorem wd_220 : (Jvm.Cond.fieldLinkNest "LandBase" (136 : Nat) "LandBase$Keeper" "crashKind" "I" "LandBase") ∈ xN := xN_in (tb_in_1 (List.mem_of_getElem? (i := 220) (by decide +kernel))) rfl
theorem wd_221 : (Jvm.Cond.fieldLinkNest "LandBase" (139 : Nat) "LandBase$Keeper" "crashLeft" "I" "LandBase") ∈ xN := xN_in (tb_in_1 (List.mem_of_getElem? (i := 221) (by decide +kernel))) rfl
theorem wd_248 : (Jvm.Cond.classLink "LandBase" (30 : Nat) "LandBase$Cutter") ∈ xW := xW_in (tb_in_2 (List.mem_of_getElem? (i := 8) (by decide +kernel))) rfl
theorem wd_249 : (Jvm.Cond.instantiable "LandBase$Cutter" (14 : Nat)) ∈ xW := xW_in (tb_in_2 (List.mem_of_getElem? (i := 9) (by decide +kernel))) rfl
theorem wd_250 : (Jvm.Cond.methodLink "LandBase" (32 : Nat) ({ cls := "LandBase$Cutter", name := "<init>", desc := "()V" } : Jvm.MethodName)) ∈ xW := xW_in (tb_in_2 (List.mem_of_getElem? (i := 10) (by decide +kernel))) rfl
theorem wd_251 : (Jvm.Cond.instanceMethod ({ cls := "LandBase$Cutter", name := "<init>", desc := "()V" } : Jvm.MethodName)) ∈ xW := xW_in (tb_in_2 (List.mem_of_getElem? (i := 11) (by decide +kernel))) rfl
theorem wd_252 : (Jvm.Cond.code ({ cls := "LandBase$Cutter", name := "<init>", desc := "()V" } : Jvm.MethodName) prog_3_method_1_code (1 : Nat) (Option.none : Option Jvm.ClassFile.FieldType)) ∈ xW := xW_in (tb_in_2 (List.mem_of_getElem? (i := 12) rfl)) rfl
theorem wd_253 : (Jvm.Cond.methodLink "LandBase$Cutter" (3 : Nat) ({ cls := "java/lang/Object", name := "<init>", desc := "()V" } : Jvm.MethodName)) ∈ xW := xW_in (tb_in_2 (List.mem_of_getElem? (i := 13) (by decide +kernel))) rfl
theorem wd_254 : (Jvm.Cond.classLink "LandBase$Cutter" (9 : Nat) "LandBase$Shape") ∈ xW := xW_in (tb_in_2 (List.mem_of_getElem? (i := 14) (by decide +kernel))) rfl
theorem wd_255 : (Jvm.Cond.methodLink "LandBase$Cutter" (11 : Nat) ({ cls := "LandBase$Shape", name := "<init>", desc := "()V" } : Jvm.MethodName)) ∈ xW := xW_in (tb_in_2 (List.mem_of_getElem? (i := 15) (by decide +kernel))) rfl
theorem wd_256 : (Jvm.Cond.fieldLink "LandBase$Cutter" (12 : Nat) "LandBase$Cutter" "region" "LLandBase$Shape;") ∈ xW := xW_in (tb_in_2 (List.mem_of_getElem? (i := 16) (by decide +kernel))) rfl
theorem wd_263 : (Jvm.Cond.fieldLink "LandBase$Cutter" (18 : Nat) "LandBase$Cutter" "over" "[J") ∈ xW := xW_in (tb_in_2 (List.mem_of_getElem? (i := 23) (by decide +kernel))) rfl
theorem wd_264 : (Jvm.Cond.fieldLink "LandBase$Cutter" (22 : Nat) "LandBase$Cutter" "under" "[J") ∈ xW := xW_in (tb_in_2 (List.mem_of_getElem? (i := 24) (by decide +kernel))) rfl
theorem wd_265 : (Jvm.Cond.fieldLink "LandBase$Cutter" (25 : Nat) "LandBase$Cutter" "turn" "[I") ∈ xW := xW_in (tb_in_2 (List.mem_of_getElem? (i := 25) (by decide +kernel))) rfl
theorem wd_299 : (Jvm.Cond.arrayClass Jvm.ClassFile.FieldType.long) ∈ xW := xW_in (tb_in_2 (List.mem_of_getElem? (i := 59) (by decide +kernel))) rfl
theorem wd_300 : (Jvm.Cond.classLink "LandBase" (33 : Nat) "LandBase$Checker") ∈ xW := xW_in (tb_in_2 (List.mem_of_getElem? (i := 60) (by decide +kernel))) rfl
theorem wd_301 : (Jvm.Cond.instantiable "LandBase$Checker" (2 : Nat)) ∈ xW := xW_in (tb_in_2 (List.mem_of_getElem? (i := 61) (by decide +kernel))) rfl
theorem wd_302 : (Jvm.Cond.methodLink "LandBase" (35 : Nat) ({ cls := "LandBase$Checker", name := "<init>", desc := "(LLandBase$Cutter;)V" } : Jvm.MethodName)) ∈ xW := xW_in (tb_in_2 (List.mem_of_getElem? (i := 62) (by decide +kernel))) rfl
theorem wd_303 : (Jvm.Cond.instanceMethod ({ cls := "LandBase$Checker", name := "<init>", desc := "(LLandBase$Cutter;)V" } : Jvm.MethodName)) ∈ xW := xW_in (tb_in_2 (List.mem_of_getElem? (i := 63) (by decide +kernel))) rfl
theorem wd_304 : (Jvm.Cond.code ({ cls := "LandBase$Checker", name := "<init>", desc := "(LLandBase$Cutter;)V" } : Jvm.MethodName) prog_2_method_1_code (2 : Nat) (Option.none : Option Jvm.ClassFile.FieldType)) ∈ xW := xW_in (tb_in_2 (List.mem_of_getElem? (i := 64) rfl)) rfl
theorem wd_305 : (Jvm.Cond.methodLink "LandBase$Checker" (3 : Nat) ({ cls := "java/lang/Object", name := "<init>", desc := "()V" } : Jvm.MethodName)) ∈ xW := xW_in (tb_in_2 (List.mem_of_getElem? (i := 65) (by decide +kernel))) rfl
theorem wd_306 : (Jvm.Cond.fieldLink "LandBase$Checker" (9 : Nat) "LandBase$Checker" "cutter" "LLandBase$Cutter;") ∈ xW := xW_in (tb_in_2 (List.mem_of_getElem? (i := 66) (by decide +kernel))) rfl
theorem wd_307 : (Jvm.Cond.fieldLink "LandBase$Checker" (15 : Nat) "LandBase$Checker" "group" "[I") ∈ xW := xW_in (tb_in_2 (List.mem_of_getElem? (i := 67) (by decide +kernel))) rfl
theorem wd_313 : (Jvm.Cond.classLink "LandBase" (42 : Nat) "LandBase$Relations") ∈ xW := xW_in (tb_in_2 (List.mem_of_getElem? (i := 73) (by decide +kernel))) rfl
theorem wd_314 : (Jvm.Cond.instantiable "LandBase$Relations" (1 : Nat)) ∈ xW := xW_in (tb_in_2 (List.mem_of_getElem? (i := 74) (by decide +kernel))) rfl
theorem wd_315 : (Jvm.Cond.methodLink "LandBase" (44 : Nat) ({ cls := "LandBase$Relations", name := "<init>", desc := "(LLandBase$Cutter;)V" } : Jvm.MethodName)) ∈ xW := xW_in (tb_in_2 (List.mem_of_getElem? (i := 75) (by decide +kernel))) rfl
theorem wd_316 : (Jvm.Cond.instanceMethod ({ cls := "LandBase$Relations", name := "<init>", desc := "(LLandBase$Cutter;)V" } : Jvm.MethodName)) ∈ xW := xW_in (tb_in_2 (List.mem_of_getElem? (i := 76) (by decide +kernel))) rfl
theorem wd_317 : (Jvm.Cond.code ({ cls := "LandBase$Relations", name := "<init>", desc := "(LLandBase$Cutter;)V" } : Jvm.MethodName) prog_8_method_1_code (2 : Nat) (Option.none : Option Jvm.ClassFile.FieldType)) ∈ xW := xW_in (tb_in_2 (List.mem_of_getElem? (i := 77) rfl)) rfl
theorem wd_318 : (Jvm.Cond.methodLink "LandBase$Relations" (3 : Nat) ({ cls := "java/lang/Object", name := "<init>", desc := "()V" } : Jvm.MethodName)) ∈ xW := xW_in (tb_in_2 (List.mem_of_getElem? (i := 78) (by decide +kernel))) rfl
theorem wd_319 : (Jvm.Cond.fieldLink "LandBase$Relations" (9 : Nat) "LandBase$Relations" "cutter" "LLandBase$Cutter;") ∈ xW := xW_in (tb_in_2 (List.mem_of_getElem? (i := 79) (by decide +kernel))) rfl
theorem wd_323 : (Jvm.Cond.classLink "LandBase" (49 : Nat) "LandBase$Distance") ∈ xW := xW_in (tb_in_2 (List.mem_of_getElem? (i := 83) (by decide +kernel))) rfl
theorem wd_325 : (Jvm.Cond.instantiable "LandBase$Distance" (3 : Nat)) ∈ xW := xW_in (tb_in_2 (List.mem_of_getElem? (i := 85) (by decide +kernel))) rfl
theorem wd_326 : (Jvm.Cond.methodLink "LandBase" (55 : Nat) ({ cls := "LandBase$Distance", name := "<init>", desc := "()V" } : Jvm.MethodName)) ∈ xW := xW_in (tb_in_2 (List.mem_of_getElem? (i := 86) (by decide +kernel))) rfl
theorem wd_327 : (Jvm.Cond.instanceMethod ({ cls := "LandBase$Distance", name := "<init>", desc := "()V" } : Jvm.MethodName)) ∈ xW := xW_in (tb_in_2 (List.mem_of_getElem? (i := 87) (by decide +kernel))) rfl
theorem wd_328 : (Jvm.Cond.code ({ cls := "LandBase$Distance", name := "<init>", desc := "()V" } : Jvm.MethodName) prog_4_method_1_code (1 : Nat) (Option.none : Option Jvm.ClassFile.FieldType)) ∈ xW := xW_in (tb_in_2 (List.mem_of_getElem? (i := 88) rfl)) rfl
theorem wd_329 : (Jvm.Cond.methodLink "LandBase$Distance" (3 : Nat) ({ cls := "java/lang/Object", name := "<init>", desc := "()V" } : Jvm.MethodName)) ∈ xW := xW_in (tb_in_2 (List.mem_of_getElem? (i := 89) (by decide +kernel))) rfl
theorem wd_332 : (Jvm.Cond.fieldLink "LandBase$Distance" (9 : Nat) "LandBase$Distance" "under" "J") ∈ xW := xW_in (tb_in_2 (List.mem_of_getElem? (i := 92) (by decide +kernel))) rfl
theorem wd_340 : (Jvm.Cond.fieldLink "LandBase" (10 : Nat) "LandBase" "tape" "LLandBase$Tape;") ∈ xW := xW_in (tb_in_2 (List.mem_of_getElem? (i := 100) (by decide +kernel))) rfl
theorem wd_341 : (Jvm.Cond.fieldLink "LandBase" (19 : Nat) "LandBase" "reader" "LLandBase$Reader;") ∈ xW := xW_in (tb_in_2 (List.mem_of_getElem? (i := 101) (by decide +kernel))) rfl
theorem wd_342 : (Jvm.Cond.fieldLink "LandBase" (26 : Nat) "LandBase" "keeper" "LLandBase$Keeper;") ∈ xW := xW_in (tb_in_2 (List.mem_of_getElem? (i := 102) (by decide +kernel))) rfl
theorem wd_343 : (Jvm.Cond.fieldLink "LandBase" (38 : Nat) "LandBase" "checker" "LLandBase$Checker;") ∈ xW := xW_in (tb_in_2 (List.mem_of_getElem? (i := 103) (by decide +kernel))) rfl
theorem wd_344 : (Jvm.Cond.fieldLink "LandBase" (45 : Nat) "LandBase" "relations" "LLandBase$Relations;") ∈ xW := xW_in (tb_in_2 (List.mem_of_getElem? (i := 104) (by decide +kernel))) rfl
theorem wd_345 : (Jvm.Cond.fieldLink "LandBase" (51 : Nat) "LandBase" "distances" "[LLandBase$Distance;") ∈ xW := xW_in (tb_in_2 (List.mem_of_getElem? (i := 105) (by decide +kernel))) rfl
theorem wd_346 : (Jvm.Cond.fieldLink "LandBase" (56 : Nat) "LandBase" "order" "[I") ∈ xW := xW_in (tb_in_2 (List.mem_of_getElem? (i := 106) (by decide +kernel))) rfl
theorem wd_347 : (Jvm.Cond.fieldLink "LandBase" (60 : Nat) "LandBase" "ints" "[I") ∈ xW := xW_in (tb_in_2 (List.mem_of_getElem? (i := 107) (by decide +kernel))) rfl
theorem wd_348 : (Jvm.Cond.fieldLink "LandBase" (63 : Nat) "LandBase" "intCount" "I") ∈ xW := xW_in (tb_in_2 (List.mem_of_getElem? (i := 108) (by decide +kernel))) rfl
theorem wd_349 : (Jvm.Cond.fieldLink "LandBase" (67 : Nat) "LandBase" "offered" "I") ∈ xW := xW_in (tb_in_2 (List.mem_of_getElem? (i := 109) (by decide +kernel))) rfl
theorem wd_350 : (Jvm.Cond.fieldLink "LandBase" (70 : Nat) "LandBase" "wrongAt" "I") ∈ xW := xW_in (tb_in_2 (List.mem_of_getElem? (i := 110) (by decide +kernel))) rfl
theorem wd_374 : (Jvm.Cond.methodLink "LandBaseLaw" (15 : Nat) ({ cls := "LandBase", name := "feed", desc := "(JJJJJ)I" } : Jvm.MethodName)) ∈ xW := xW_in (tb_in_2 (List.mem_of_getElem? (i := 134) (by decide +kernel))) rfl
theorem wd_375 : (Jvm.Cond.instanceMethod ({ cls := "LandBase", name := "feed", desc := "(JJJJJ)I" } : Jvm.MethodName)) ∈ xW := xW_in (tb_in_2 (List.mem_of_getElem? (i := 135) (by decide +kernel))) rfl
theorem wd_376 : (Jvm.Cond.selects "LandBase" ({ cls := "LandBase", name := "feed", desc := "(JJJJJ)I" } : Jvm.MethodName) ({ cls := "LandBase", name := "feed", desc := "(JJJJJ)I" } : Jvm.MethodName)) ∈ xW := xW_in (tb_in_2 (List.mem_of_getElem? (i := 136) (by decide +kernel))) rfl
theorem wd_377 : (Jvm.Cond.code ({ cls := "LandBase", name := "feed", desc := "(JJJJJ)I" } : Jvm.MethodName) prog_1_method_2_code (11 : Nat) (Option.some Jvm.ClassFile.FieldType.int)) ∈ xW := xW_in (tb_in_2 (List.mem_of_getElem? (i := 137) rfl)) rfl
theorem wd_378 : (Jvm.Cond.methodLink "LandBase" (76 : Nat) ({ cls := "LandBase$Tape", name := "append", desc := "(J)V" } : Jvm.MethodName)) ∈ xW := xW_in (tb_in_2 (List.mem_of_getElem? (i := 138) (by decide +kernel))) rfl
theorem wd_379 : (Jvm.Cond.instanceMethod ({ cls := "LandBase$Tape", name := "append", desc := "(J)V" } : Jvm.MethodName)) ∈ xW := xW_in (tb_in_2 (List.mem_of_getElem? (i := 139) (by decide +kernel))) rfl
theorem wd_380 : (Jvm.Cond.selects "LandBase$Tape" ({ cls := "LandBase$Tape", name := "append", desc := "(J)V" } : Jvm.MethodName) ({ cls := "LandBase$Tape", name := "append", desc := "(J)V" } : Jvm.MethodName)) ∈ xW := xW_in (tb_in_2 (List.mem_of_getElem? (i := 140) (by decide +kernel))) rfl
theorem wd_381 : (Jvm.Cond.code ({ cls := "LandBase$Tape", name := "append", desc := "(J)V" } : Jvm.MethodName) prog_11_method_2_code (4 : Nat) (Option.none : Option Jvm.ClassFile.FieldType)) ∈ xW := xW_in (tb_in_2 (List.mem_of_getElem? (i := 141) rfl)) rfl
theorem wd_382 : (Jvm.Cond.methodLink "LandBaseLaw" (20 : Nat) ({ cls := "LandBase", name := "end", desc := "(I)I" } : Jvm.MethodName)) ∈ xW := xW_in (tb_in_2 (List.mem_of_getElem? (i := 142) (by decide +kernel))) rfl
theorem wd_383 : (Jvm.Cond.instanceMethod ({ cls := "LandBase", name := "end", desc := "(I)I" } : Jvm.MethodName)) ∈ xW := xW_in (tb_in_2 (List.mem_of_getElem? (i := 143) (by decide +kernel))) rfl
theorem wd_384 : (Jvm.Cond.selects "LandBase" ({ cls := "LandBase", name := "end", desc := "(I)I" } : Jvm.MethodName) ({ cls := "LandBase", name := "end", desc := "(I)I" } : Jvm.MethodName)) ∈ xW := xW_in (tb_in_2 (List.mem_of_getElem? (i := 144) (by decide +kernel))) rfl
theorem wd_385 : (Jvm.Cond.code ({ cls := "LandBase", name := "end", desc := "(I)I" } : Jvm.MethodName) prog_1_method_3_code (2 : Nat) (Option.some Jvm.ClassFile.FieldType.int)) ∈ xW := xW_in (tb_in_2 (List.mem_of_getElem? (i := 145) rfl)) rfl
theorem wd_386 : (Jvm.Cond.methodLink "LandBaseLaw" (25 : Nat) ({ cls := "LandBase", name := "run", desc := "()I" } : Jvm.MethodName)) ∈ xW := xW_in (tb_in_2 (List.mem_of_getElem? (i := 146) (by decide +kernel))) rfl
theorem wd_387 : (Jvm.Cond.instanceMethod ({ cls := "LandBase", name := "run", desc := "()I" } : Jvm.MethodName)) ∈ xW := xW_in (tb_in_2 (List.mem_of_getElem? (i := 147) (by decide +kernel))) rfl
theorem wd_388 : (Jvm.Cond.selects "LandBase" ({ cls := "LandBase", name := "run", desc := "()I" } : Jvm.MethodName) ({ cls := "LandBase", name := "run", desc := "()I" } : Jvm.MethodName)) ∈ xW := xW_in (tb_in_2 (List.mem_of_getElem? (i := 148) (by decide +kernel))) rfl
theorem wd_389 : (Jvm.Cond.code ({ cls := "LandBase", name := "run", desc := "()I" } : Jvm.MethodName) prog_1_method_4_code (3 : Nat) (Option.some Jvm.ClassFile.FieldType.int)) ∈ xW := xW_in (tb_in_2 (List.mem_of_getElem? (i := 149) rfl)) rfl
theorem wd_390 : (Jvm.Cond.methodLink "LandBase" (84 : Nat) ({ cls := "LandBase$Tape", name := "rewind", desc := "()V" } : Jvm.MethodName)) ∈ xW := xW_in (tb_in_2 (List.mem_of_getElem? (i := 150) (by decide +kernel))) rfl
theorem wd_391 : (Jvm.Cond.instanceMethod ({ cls := "LandBase$Tape", name := "rewind", desc := "()V" } : Jvm.MethodName)) ∈ xW := xW_in (tb_in_2 (List.mem_of_getElem? (i := 151) (by decide +kernel))) rfl
theorem wd_392 : (Jvm.Cond.selects "LandBase$Tape" ({ cls := "LandBase$Tape", name := "rewind", desc := "()V" } : Jvm.MethodName) ({ cls := "LandBase$Tape", name := "rewind", desc := "()V" } : Jvm.MethodName)) ∈ xW := xW_in (tb_in_2 (List.mem_of_getElem? (i := 152) (by decide +kernel))) rfl
theorem wd_393 : (Jvm.Cond.code ({ cls := "LandBase$Tape", name := "rewind", desc := "()V" } : Jvm.MethodName) prog_11_method_4_code (1 : Nat) (Option.none : Option Jvm.ClassFile.FieldType)) ∈ xW := xW_in (tb_in_2 (List.mem_of_getElem? (i := 153) rfl)) rfl
theorem wd_394 : (Jvm.Cond.methodLink "LandBase$Tape" (22 : Nat) ({ cls := "LandBase$Tape", name := "advance", desc := "()V" } : Jvm.MethodName)) ∈ xW := xW_in (tb_in_2 (List.mem_of_getElem? (i := 154) (by decide +kernel))) rfl
theorem wd_395 : (Jvm.Cond.instanceMethod ({ cls := "LandBase$Tape", name := "advance", desc := "()V" } : Jvm.MethodName)) ∈ xW := xW_in (tb_in_2 (List.mem_of_getElem? (i := 155) (by decide +kernel))) rfl
theorem wd_396 : (Jvm.Cond.selects "LandBase$Tape" ({ cls := "LandBase$Tape", name := "advance", desc := "()V" } : Jvm.MethodName) ({ cls := "LandBase$Tape", name := "advance", desc := "()V" } : Jvm.MethodName)) ∈ xW := xW_in (tb_in_2 (List.mem_of_getElem? (i := 156) (by decide +kernel))) rfl
theorem wd_397 : (Jvm.Cond.code ({ cls := "LandBase$Tape", name := "advance", desc := "()V" } : Jvm.MethodName) prog_11_method_5_code (3 : Nat) (Option.none : Option Jvm.ClassFile.FieldType)) ∈ xW := xW_in (tb_in_2 (List.mem_of_getElem? (i := 157) rfl)) rfl
end
section
theorem wd_532 : (Jvm.Cond.instanceMethod ({ cls := "LandBase$Table", name := "indexOf", desc := "(I)I" } : Jvm.MethodName)) ∈ xW := xW_in (tb_in_3 (List.mem_of_getElem? (i := 52) (by decide +kernel))) rfl
theorem wd_533 : (Jvm.Cond.selects "LandBase$Table" ({ cls := "LandBase$Table", name := "indexOf", desc := "(I)I" } : Jvm.MethodName) ({ cls := "LandBase$Table", name := "indexOf", desc := "(I)I" } : Jvm.MethodName)) ∈ xW := xW_in (tb_in_3 (List.mem_of_getElem? (i := 53) (by decide +kernel))) rfl
theorem wd_534 : (Jvm.Cond.code ({ cls := "LandBase$Table", name := "indexOf", desc := "(I)I" } : Jvm.MethodName) prog_10_method_2_code (3 : Nat) (Option.some Jvm.ClassFile.FieldType.int)) ∈ xW := xW_in (tb_in_3 (List.mem_of_getElem? (i := 54) rfl)) rfl
theorem wd_692 : (Jvm.Cond.methodLink "LandBase$Keeper" (65 : Nat) ({ cls := "LandBase$Table", name := "copyFrom", desc := "(LLandBase$Table;)V" } : Jvm.MethodName)) ∈ xW := xW_in (tb_in_3 (List.mem_of_getElem? (i := 212) (by decide +kernel))) rfl
theorem wd_693 : (Jvm.Cond.instanceMethod ({ cls := "LandBase$Table", name := "copyFrom", desc := "(LLandBase$Table;)V" } : Jvm.MethodName)) ∈ xW := xW_in (tb_in_3 (List.mem_of_getElem? (i := 213) (by decide +kernel))) rfl
theorem wd_694 : (Jvm.Cond.selects "LandBase$Table" ({ cls := "LandBase$Table", name := "copyFrom", desc := "(LLandBase$Table;)V" } : Jvm.MethodName) ({ cls := "LandBase$Table", name := "copyFrom", desc := "(LLandBase$Table;)V" } : Jvm.MethodName)) ∈ xW := xW_in (tb_in_3 (List.mem_of_getElem? (i := 214) (by decide +kernel))) rfl
theorem wd_695 : (Jvm.Cond.code ({ cls := "LandBase$Table", name := "copyFrom", desc := "(LLandBase$Table;)V" } : Jvm.MethodName) prog_10_method_7_code (3 : Nat) (Option.none : Option Jvm.ClassFile.FieldType)) ∈ xW := xW_in (tb_in_3 (List.mem_of_getElem? (i := 215) rfl)) rfl
end
section
theorem wd_882 : (Jvm.Cond.methodLink "LandBase" (133 : Nat) ({ cls := "LandBase$Tape", name := "clear", desc := "()V" } : Jvm.MethodName)) ∈ xW := xW_in (tb_in_4 (List.mem_of_getElem? (i := 162) (by decide +kernel))) rfl
theorem wd_883 : (Jvm.Cond.instanceMethod ({ cls := "LandBase$Tape", name := "clear", desc := "()V" } : Jvm.MethodName)) ∈ xW := xW_in (tb_in_4 (List.mem_of_getElem? (i := 163) (by decide +kernel))) rfl
theorem wd_884 : (Jvm.Cond.selects "LandBase$Tape" ({ cls := "LandBase$Tape", name := "clear", desc := "()V" } : Jvm.MethodName) ({ cls := "LandBase$Tape", name := "clear", desc := "()V" } : Jvm.MethodName)) ∈ xW := xW_in (tb_in_4 (List.mem_of_getElem? (i := 164) (by decide +kernel))) rfl
theorem wd_885 : (Jvm.Cond.code ({ cls := "LandBase$Tape", name := "clear", desc := "()V" } : Jvm.MethodName) prog_11_method_3_code (1 : Nat) (Option.none : Option Jvm.ClassFile.FieldType)) ∈ xW := xW_in (tb_in_4 (List.mem_of_getElem? (i := 165) rfl)) rfl
theorem wd_886 : (Jvm.Cond.methodLink "LandBaseLaw" (30 : Nat) ({ cls := "LandBase", name := "wrong", desc := "()I" } : Jvm.MethodName)) ∈ xW := xW_in (tb_in_4 (List.mem_of_getElem? (i := 166) (by decide +kernel))) rfl
theorem wd_887 : (Jvm.Cond.instanceMethod ({ cls := "LandBase", name := "wrong", desc := "()I" } : Jvm.MethodName)) ∈ xW := xW_in (tb_in_4 (List.mem_of_getElem? (i := 167) (by decide +kernel))) rfl
theorem wd_888 : (Jvm.Cond.selects "LandBase" ({ cls := "LandBase", name := "wrong", desc := "()I" } : Jvm.MethodName) ({ cls := "LandBase", name := "wrong", desc := "()I" } : Jvm.MethodName)) ∈ xW := xW_in (tb_in_4 (List.mem_of_getElem? (i := 168) (by decide +kernel))) rfl
theorem wd_889 : (Jvm.Cond.code ({ cls := "LandBase", name := "wrong", desc := "()I" } : Jvm.MethodName) prog_1_method_5_code (1 : Nat) (Option.some Jvm.ClassFile.FieldType.int)) ∈ xW := xW_in (tb_in_4 (List.mem_of_getElem? (i := 169) rfl)) rfl
theorem wd_890 : (Jvm.Cond.methodLink "LandBaseLaw" (34 : Nat) ({ cls := "LandBase", name := "outputs", desc := "()I" } : Jvm.MethodName)) ∈ xW := xW_in (tb_in_4 (List.mem_of_getElem? (i := 170) (by decide +kernel))) rfl
theorem wd_891 : (Jvm.Cond.instanceMethod ({ cls := "LandBase", name := "outputs", desc := "()I" } : Jvm.MethodName)) ∈ xW := xW_in (tb_in_4 (List.mem_of_getElem? (i := 171) (by decide +kernel))) rfl
theorem wd_892 : (Jvm.Cond.selects "LandBase" ({ cls := "LandBase", name := "outputs", desc := "()I" } : Jvm.MethodName) ({ cls := "LandBase", name := "outputs", desc := "()I" } : Jvm.MethodName)) ∈ xW := xW_in (tb_in_4 (List.mem_of_getElem? (i := 172) (by decide +kernel))) rfl
theorem wd_893 : (Jvm.Cond.code ({ cls := "LandBase", name := "outputs", desc := "()I" } : Jvm.MethodName) prog_1_method_6_code (1 : Nat) (Option.some Jvm.ClassFile.FieldType.int)) ∈ xW := xW_in (tb_in_4 (List.mem_of_getElem? (i := 173) rfl)) rfl
theorem wd_894 : (Jvm.Cond.methodLink "LandBaseLaw" (38 : Nat) ({ cls := "LandBase", name := "out", desc := "(I)I" } : Jvm.MethodName)) ∈ xW := xW_in (tb_in_4 (List.mem_of_getElem? (i := 174) (by decide +kernel))) rfl
theorem wd_895 : (Jvm.Cond.instanceMethod ({ cls := "LandBase", name := "out", desc := "(I)I" } : Jvm.MethodName)) ∈ xW := xW_in (tb_in_4 (List.mem_of_getElem? (i := 175) (by decide +kernel))) rfl
theorem wd_896 : (Jvm.Cond.selects "LandBase" ({ cls := "LandBase", name := "out", desc := "(I)I" } : Jvm.MethodName) ({ cls := "LandBase", name := "out", desc := "(I)I" } : Jvm.MethodName)) ∈ xW := xW_in (tb_in_4 (List.mem_of_getElem? (i := 176) (by decide +kernel))) rfl
theorem wd_897 : (Jvm.Cond.code ({ cls := "LandBase", name := "out", desc := "(I)I" } : Jvm.MethodName) prog_1_method_7_code (2 : Nat) (Option.some Jvm.ClassFile.FieldType.int)) ∈ xW := xW_in (tb_in_4 (List.mem_of_getElem? (i := 177) rfl)) rfl
theorem wd_898 : (Jvm.Cond.methodLink "LandBaseLaw" (42 : Nat) ({ cls := "LandBase", name := "crash", desc := "(III)Z" } : Jvm.MethodName)) ∈ xW := xW_in (tb_in_4 (List.mem_of_getElem? (i := 178) (by decide +kernel))) rfl
theorem wd_899 : (Jvm.Cond.instanceMethod ({ cls := "LandBase", name := "crash", desc := "(III)Z" } : Jvm.MethodName)) ∈ xW := xW_in (tb_in_4 (List.mem_of_getElem? (i := 179) (by decide +kernel))) rfl
theorem wd_900 : (Jvm.Cond.selects "LandBase" ({ cls := "LandBase", name := "crash", desc := "(III)Z" } : Jvm.MethodName) ({ cls := "LandBase", name := "crash", desc := "(III)Z" } : Jvm.MethodName)) ∈ xW := xW_in (tb_in_4 (List.mem_of_getElem? (i := 180) (by decide +kernel))) rfl
theorem wd_901 : (Jvm.Cond.code ({ cls := "LandBase", name := "crash", desc := "(III)Z" } : Jvm.MethodName) prog_1_method_8_code (4 : Nat) (Option.some Jvm.ClassFile.FieldType.boolean)) ∈ xW := xW_in (tb_in_4 (List.mem_of_getElem? (i := 181) rfl)) rfl
theorem wd_902 : (Jvm.Cond.methodLink "LandBaseLaw" (47 : Nat) ({ cls := "LandBase", name := "recover", desc := "()I" } : Jvm.MethodName)) ∈ xW := xW_in (tb_in_4 (List.mem_of_getElem? (i := 182) (by decide +kernel))) rfl
theorem wd_903 : (Jvm.Cond.instanceMethod ({ cls := "LandBase", name := "recover", desc := "()I" } : Jvm.MethodName)) ∈ xW := xW_in (tb_in_4 (List.mem_of_getElem? (i := 183) (by decide +kernel))) rfl
theorem wd_904 : (Jvm.Cond.selects "LandBase" ({ cls := "LandBase", name := "recover", desc := "()I" } : Jvm.MethodName) ({ cls := "LandBase", name := "recover", desc := "()I" } : Jvm.MethodName)) ∈ xW := xW_in (tb_in_4 (List.mem_of_getElem? (i := 184) (by decide +kernel))) rfl
theorem wd_905 : (Jvm.Cond.code ({ cls := "LandBase", name := "recover", desc := "()I" } : Jvm.MethodName) prog_1_method_9_code (1 : Nat) (Option.some Jvm.ClassFile.FieldType.int)) ∈ xW := xW_in (tb_in_4 (List.mem_of_getElem? (i := 185) rfl)) rfl
theorem wd_906 : (Jvm.Cond.methodLink "LandBase" (142 : Nat) ({ cls := "LandBase$Keeper", name := "restore", desc := "()V" } : Jvm.MethodName)) ∈ xW := xW_in (tb_in_4 (List.mem_of_getElem? (i := 186) (by decide +kernel))) rfl
theorem wd_907 : (Jvm.Cond.instanceMethod ({ cls := "LandBase$Keeper", name := "restore", desc := "()V" } : Jvm.MethodName)) ∈ xW := xW_in (tb_in_4 (List.mem_of_getElem? (i := 187) (by decide +kernel))) rfl
theorem wd_908 : (Jvm.Cond.selects "LandBase$Keeper" ({ cls := "LandBase$Keeper", name := "restore", desc := "()V" } : Jvm.MethodName) ({ cls := "LandBase$Keeper", name := "restore", desc := "()V" } : Jvm.MethodName)) ∈ xW := xW_in (tb_in_4 (List.mem_of_getElem? (i := 188) (by decide +kernel))) rfl
theorem wd_909 : (Jvm.Cond.code ({ cls := "LandBase$Keeper", name := "restore", desc := "()V" } : Jvm.MethodName) prog_5_method_11_code (1 : Nat) (Option.none : Option Jvm.ClassFile.FieldType)) ∈ xW := xW_in (tb_in_4 (List.mem_of_getElem? (i := 189) rfl)) rfl
theorem wd_910 : (Jvm.Cond.methodLink "LandBaseLaw" (51 : Nat) ({ cls := "LandBase", name := "isDown", desc := "()Z" } : Jvm.MethodName)) ∈ xW := xW_in (tb_in_4 (List.mem_of_getElem? (i := 190) (by decide +kernel))) rfl
theorem wd_911 : (Jvm.Cond.instanceMethod ({ cls := "LandBase", name := "isDown", desc := "()Z" } : Jvm.MethodName)) ∈ xW := xW_in (tb_in_4 (List.mem_of_getElem? (i := 191) (by decide +kernel))) rfl
theorem wd_912 : (Jvm.Cond.selects "LandBase" ({ cls := "LandBase", name := "isDown", desc := "()Z" } : Jvm.MethodName) ({ cls := "LandBase", name := "isDown", desc := "()Z" } : Jvm.MethodName)) ∈ xW := xW_in (tb_in_4 (List.mem_of_getElem? (i := 192) (by decide +kernel))) rfl
theorem wd_913 : (Jvm.Cond.code ({ cls := "LandBase", name := "isDown", desc := "()Z" } : Jvm.MethodName) prog_1_method_10_code (1 : Nat) (Option.some Jvm.ClassFile.FieldType.boolean)) ∈ xW := xW_in (tb_in_4 (List.mem_of_getElem? (i := 193) rfl)) rfl
theorem wd_914 : (Jvm.Cond.methodLink "LandBaseLaw" (56 : Nat) ({ cls := "LandBase", name := "isOpen", desc := "()Z" } : Jvm.MethodName)) ∈ xW := xW_in (tb_in_4 (List.mem_of_getElem? (i := 194) (by decide +kernel))) rfl
theorem wd_915 : (Jvm.Cond.instanceMethod ({ cls := "LandBase", name := "isOpen", desc := "()Z" } : Jvm.MethodName)) ∈ xW := xW_in (tb_in_4 (List.mem_of_getElem? (i := 195) (by decide +kernel))) rfl
theorem wd_916 : (Jvm.Cond.selects "LandBase" ({ cls := "LandBase", name := "isOpen", desc := "()Z" } : Jvm.MethodName) ({ cls := "LandBase", name := "isOpen", desc := "()Z" } : Jvm.MethodName)) ∈ xW := xW_in (tb_in_4 (List.mem_of_getElem? (i := 196) (by decide +kernel))) rfl
theorem wd_917 : (Jvm.Cond.code ({ cls := "LandBase", name := "isOpen", desc := "()Z" } : Jvm.MethodName) prog_1_method_11_code (1 : Nat) (Option.some Jvm.ClassFile.FieldType.boolean)) ∈ xW := xW_in (tb_in_4 (List.mem_of_getElem? (i := 197) rfl)) rfl
theorem wd_918 : (Jvm.Cond.methodLink "LandBaseLaw" (60 : Nat) ({ cls := "LandBase", name := "live", desc := "()I" } : Jvm.MethodName)) ∈ xW := xW_in (tb_in_4 (List.mem_of_getElem? (i := 198) (by decide +kernel))) rfl
theorem wd_919 : (Jvm.Cond.instanceMethod ({ cls := "LandBase", name := "live", desc := "()I" } : Jvm.MethodName)) ∈ xW := xW_in (tb_in_4 (List.mem_of_getElem? (i := 199) (by decide +kernel))) rfl
theorem wd_920 : (Jvm.Cond.selects "LandBase" ({ cls := "LandBase", name := "live", desc := "()I" } : Jvm.MethodName) ({ cls := "LandBase", name := "live", desc := "()I" } : Jvm.MethodName)) ∈ xW := xW_in (tb_in_4 (List.mem_of_getElem? (i := 200) (by decide +kernel))) rfl
theorem wd_921 : (Jvm.Cond.code ({ cls := "LandBase", name := "live", desc := "()I" } : Jvm.MethodName) prog_1_method_12_code (1 : Nat) (Option.some Jvm.ClassFile.FieldType.int)) ∈ xW := xW_in (tb_in_4 (List.mem_of_getElem? (i := 201) rfl)) rfl
theorem wd_922 : (Jvm.Cond.methodLink "LandBaseLaw" (64 : Nat) ({ cls := "LandBase", name := "idAt", desc := "(I)I" } : Jvm.MethodName)) ∈ xW := xW_in (tb_in_4 (List.mem_of_getElem? (i := 202) (by decide +kernel))) rfl
theorem wd_923 : (Jvm.Cond.instanceMethod ({ cls := "LandBase", name := "idAt", desc := "(I)I" } : Jvm.MethodName)) ∈ xW := xW_in (tb_in_4 (List.mem_of_getElem? (i := 203) (by decide +kernel))) rfl
theorem wd_924 : (Jvm.Cond.selects "LandBase" ({ cls := "LandBase", name := "idAt", desc := "(I)I" } : Jvm.MethodName) ({ cls := "LandBase", name := "idAt", desc := "(I)I" } : Jvm.MethodName)) ∈ xW := xW_in (tb_in_4 (List.mem_of_getElem? (i := 204) (by decide +kernel))) rfl
theorem wd_925 : (Jvm.Cond.code ({ cls := "LandBase", name := "idAt", desc := "(I)I" } : Jvm.MethodName) prog_1_method_13_code (2 : Nat) (Option.some Jvm.ClassFile.FieldType.int)) ∈ xW := xW_in (tb_in_4 (List.mem_of_getElem? (i := 205) rfl)) rfl
theorem wd_926 : (Jvm.Cond.methodLink "LandBaseLaw" (68 : Nat) ({ cls := "LandBase", name := "kindOf", desc := "(I)I" } : Jvm.MethodName)) ∈ xW := xW_in (tb_in_4 (List.mem_of_getElem? (i := 206) (by decide +kernel))) rfl
theorem wd_927 : (Jvm.Cond.instanceMethod ({ cls := "LandBase", name := "kindOf", desc := "(I)I" } : Jvm.MethodName)) ∈ xW := xW_in (tb_in_4 (List.mem_of_getElem? (i := 207) (by decide +kernel))) rfl
theorem wd_928 : (Jvm.Cond.selects "LandBase" ({ cls := "LandBase", name := "kindOf", desc := "(I)I" } : Jvm.MethodName) ({ cls := "LandBase", name := "kindOf", desc := "(I)I" } : Jvm.MethodName)) ∈ xW := xW_in (tb_in_4 (List.mem_of_getElem? (i := 208) (by decide +kernel))) rfl
theorem wd_929 : (Jvm.Cond.code ({ cls := "LandBase", name := "kindOf", desc := "(I)I" } : Jvm.MethodName) prog_1_method_14_code (3 : Nat) (Option.some Jvm.ClassFile.FieldType.int)) ∈ xW := xW_in (tb_in_4 (List.mem_of_getElem? (i := 209) rfl)) rfl
theorem wd_930 : (Jvm.Cond.methodLink "LandBase" (160 : Nat) ({ cls := "LandBase", name := "shapeOf", desc := "(I)LLandBase$Shape;" } : Jvm.MethodName)) ∈ xW := xW_in (tb_in_4 (List.mem_of_getElem? (i := 210) (by decide +kernel))) rfl
theorem wd_932 : (Jvm.Cond.instanceMethod ({ cls := "LandBase", name := "shapeOf", desc := "(I)LLandBase$Shape;" } : Jvm.MethodName)) ∈ xW := xW_in (tb_in_4 (List.mem_of_getElem? (i := 212) (by decide +kernel))) rfl
theorem wd_933 : (Jvm.Cond.code ({ cls := "LandBase", name := "shapeOf", desc := "(I)LLandBase$Shape;" } : Jvm.MethodName) prog_1_method_24_code (2 : Nat) (Option.some (Jvm.ClassFile.FieldType.object "LandBase$Shape"))) ∈ xW := xW_in (tb_in_4 (List.mem_of_getElem? (i := 213) rfl)) rfl
theorem wd_934 : (Jvm.Cond.methodLink "LandBase" (208 : Nat) ({ cls := "LandBase$Table", name := "shapeWith", desc := "(I)LLandBase$Shape;" } : Jvm.MethodName)) ∈ xW := xW_in (tb_in_4 (List.mem_of_getElem? (i := 214) (by decide +kernel))) rfl
theorem wd_935 : (Jvm.Cond.instanceMethod ({ cls := "LandBase$Table", name := "shapeWith", desc := "(I)LLandBase$Shape;" } : Jvm.MethodName)) ∈ xW := xW_in (tb_in_4 (List.mem_of_getElem? (i := 215) (by decide +kernel))) rfl
theorem wd_936 : (Jvm.Cond.selects "LandBase$Table" ({ cls := "LandBase$Table", name := "shapeWith", desc := "(I)LLandBase$Shape;" } : Jvm.MethodName) ({ cls := "LandBase$Table", name := "shapeWith", desc := "(I)LLandBase$Shape;" } : Jvm.MethodName)) ∈ xW := xW_in (tb_in_4 (List.mem_of_getElem? (i := 216) (by decide +kernel))) rfl
theorem wd_937 : (Jvm.Cond.code ({ cls := "LandBase$Table", name := "shapeWith", desc := "(I)LLandBase$Shape;" } : Jvm.MethodName) prog_10_method_3_code (3 : Nat) (Option.some (Jvm.ClassFile.FieldType.object "LandBase$Shape"))) ∈ xW := xW_in (tb_in_4 (List.mem_of_getElem? (i := 217) rfl)) rfl
theorem wd_938 : (Jvm.Cond.methodLink "LandBase$Table" (25 : Nat) ({ cls := "LandBase$Table", name := "indexOf", desc := "(I)I" } : Jvm.MethodName)) ∈ xW := xW_in (tb_in_4 (List.mem_of_getElem? (i := 218) (by decide +kernel))) rfl
theorem wd_939 : (Jvm.Cond.methodLink "LandBaseLaw" (72 : Nat) ({ cls := "LandBase", name := "places", desc := "(I)I" } : Jvm.MethodName)) ∈ xW := xW_in (tb_in_4 (List.mem_of_getElem? (i := 219) (by decide +kernel))) rfl
theorem wd_940 : (Jvm.Cond.instanceMethod ({ cls := "LandBase", name := "places", desc := "(I)I" } : Jvm.MethodName)) ∈ xW := xW_in (tb_in_4 (List.mem_of_getElem? (i := 220) (by decide +kernel))) rfl
theorem wd_941 : (Jvm.Cond.selects "LandBase" ({ cls := "LandBase", name := "places", desc := "(I)I" } : Jvm.MethodName) ({ cls := "LandBase", name := "places", desc := "(I)I" } : Jvm.MethodName)) ∈ xW := xW_in (tb_in_4 (List.mem_of_getElem? (i := 221) (by decide +kernel))) rfl
theorem wd_942 : (Jvm.Cond.code ({ cls := "LandBase", name := "places", desc := "(I)I" } : Jvm.MethodName) prog_1_method_15_code (3 : Nat) (Option.some Jvm.ClassFile.FieldType.int)) ∈ xW := xW_in (tb_in_4 (List.mem_of_getElem? (i := 222) rfl)) rfl
theorem wd_943 : (Jvm.Cond.methodLink "LandBaseLaw" (76 : Nat) ({ cls := "LandBase", name := "rings", desc := "(I)I" } : Jvm.MethodName)) ∈ xW := xW_in (tb_in_4 (List.mem_of_getElem? (i := 223) (by decide +kernel))) rfl
theorem wd_944 : (Jvm.Cond.instanceMethod ({ cls := "LandBase", name := "rings", desc := "(I)I" } : Jvm.MethodName)) ∈ xW := xW_in (tb_in_4 (List.mem_of_getElem? (i := 224) (by decide +kernel))) rfl
theorem wd_945 : (Jvm.Cond.selects "LandBase" ({ cls := "LandBase", name := "rings", desc := "(I)I" } : Jvm.MethodName) ({ cls := "LandBase", name := "rings", desc := "(I)I" } : Jvm.MethodName)) ∈ xW := xW_in (tb_in_4 (List.mem_of_getElem? (i := 225) (by decide +kernel))) rfl
theorem wd_946 : (Jvm.Cond.code ({ cls := "LandBase", name := "rings", desc := "(I)I" } : Jvm.MethodName) prog_1_method_16_code (3 : Nat) (Option.some Jvm.ClassFile.FieldType.int)) ∈ xW := xW_in (tb_in_4 (List.mem_of_getElem? (i := 226) rfl)) rfl
theorem wd_947 : (Jvm.Cond.methodLink "LandBaseLaw" (80 : Nat) ({ cls := "LandBase", name := "at", desc := "(III)I" } : Jvm.MethodName)) ∈ xW := xW_in (tb_in_4 (List.mem_of_getElem? (i := 227) (by decide +kernel))) rfl
theorem wd_948 : (Jvm.Cond.instanceMethod ({ cls := "LandBase", name := "at", desc := "(III)I" } : Jvm.MethodName)) ∈ xW := xW_in (tb_in_4 (List.mem_of_getElem? (i := 228) (by decide +kernel))) rfl
theorem wd_949 : (Jvm.Cond.selects "LandBase" ({ cls := "LandBase", name := "at", desc := "(III)I" } : Jvm.MethodName) ({ cls := "LandBase", name := "at", desc := "(III)I" } : Jvm.MethodName)) ∈ xW := xW_in (tb_in_4 (List.mem_of_getElem? (i := 229) (by decide +kernel))) rfl
theorem wd_950 : (Jvm.Cond.code ({ cls := "LandBase", name := "at", desc := "(III)I" } : Jvm.MethodName) prog_1_method_17_code (5 : Nat) (Option.some Jvm.ClassFile.FieldType.int)) ∈ xW := xW_in (tb_in_4 (List.mem_of_getElem? (i := 230) rfl)) rfl
theorem wd_951 : (Jvm.Cond.methodLink "LandBaseLaw" (85 : Nat) ({ cls := "LandBase", name := "relate", desc := "(III)I" } : Jvm.MethodName)) ∈ xW := xW_in (tb_in_4 (List.mem_of_getElem? (i := 231) (by decide +kernel))) rfl
theorem wd_952 : (Jvm.Cond.instanceMethod ({ cls := "LandBase", name := "relate", desc := "(III)I" } : Jvm.MethodName)) ∈ xW := xW_in (tb_in_4 (List.mem_of_getElem? (i := 232) (by decide +kernel))) rfl
theorem wd_953 : (Jvm.Cond.selects "LandBase" ({ cls := "LandBase", name := "relate", desc := "(III)I" } : Jvm.MethodName) ({ cls := "LandBase", name := "relate", desc := "(III)I" } : Jvm.MethodName)) ∈ xW := xW_in (tb_in_4 (List.mem_of_getElem? (i := 233) (by decide +kernel))) rfl
theorem wd_954 : (Jvm.Cond.code ({ cls := "LandBase", name := "relate", desc := "(III)I" } : Jvm.MethodName) prog_1_method_18_code (6 : Nat) (Option.some Jvm.ClassFile.FieldType.int)) ∈ xW := xW_in (tb_in_4 (List.mem_of_getElem? (i := 234) rfl)) rfl
theorem wd_955 : (Jvm.Cond.methodLink "LandBaseLaw" (89 : Nat) ({ cls := "LandBase", name := "nearer", desc := "(IIII)I" } : Jvm.MethodName)) ∈ xW := xW_in (tb_in_4 (List.mem_of_getElem? (i := 235) (by decide +kernel))) rfl
theorem wd_956 : (Jvm.Cond.instanceMethod ({ cls := "LandBase", name := "nearer", desc := "(IIII)I" } : Jvm.MethodName)) ∈ xW := xW_in (tb_in_4 (List.mem_of_getElem? (i := 236) (by decide +kernel))) rfl
theorem wd_957 : (Jvm.Cond.selects "LandBase" ({ cls := "LandBase", name := "nearer", desc := "(IIII)I" } : Jvm.MethodName) ({ cls := "LandBase", name := "nearer", desc := "(IIII)I" } : Jvm.MethodName)) ∈ xW := xW_in (tb_in_4 (List.mem_of_getElem? (i := 237) (by decide +kernel))) rfl
theorem wd_958 : (Jvm.Cond.code ({ cls := "LandBase", name := "nearer", desc := "(IIII)I" } : Jvm.MethodName) prog_1_method_19_code (7 : Nat) (Option.some Jvm.ClassFile.FieldType.int)) ∈ xW := xW_in (tb_in_4 (List.mem_of_getElem? (i := 238) rfl)) rfl
theorem wd_960 : (Jvm.Cond.methodLink "LandBaseLaw" (94 : Nat) ({ cls := "LandBase", name := "used", desc := "()I" } : Jvm.MethodName)) ∈ xW := xW_in (tb_in_5 (List.mem_of_getElem? (i := 0) (by decide +kernel))) rfl
theorem wd_961 : (Jvm.Cond.instanceMethod ({ cls := "LandBase", name := "used", desc := "()I" } : Jvm.MethodName)) ∈ xW := xW_in (tb_in_5 (List.mem_of_getElem? (i := 1) (by decide +kernel))) rfl
theorem wd_962 : (Jvm.Cond.selects "LandBase" ({ cls := "LandBase", name := "used", desc := "()I" } : Jvm.MethodName) ({ cls := "LandBase", name := "used", desc := "()I" } : Jvm.MethodName)) ∈ xW := xW_in (tb_in_5 (List.mem_of_getElem? (i := 2) (by decide +kernel))) rfl
theorem wd_963 : (Jvm.Cond.code ({ cls := "LandBase", name := "used", desc := "()I" } : Jvm.MethodName) prog_1_method_20_code (1 : Nat) (Option.some Jvm.ClassFile.FieldType.int)) ∈ xW := xW_in (tb_in_5 (List.mem_of_getElem? (i := 3) rfl)) rfl
theorem wd_964 : (Jvm.Cond.methodLink "LandBaseLaw" (98 : Nat) ({ cls := "LandBase", name := "saves", desc := "()I" } : Jvm.MethodName)) ∈ xW := xW_in (tb_in_5 (List.mem_of_getElem? (i := 4) (by decide +kernel))) rfl
theorem wd_965 : (Jvm.Cond.instanceMethod ({ cls := "LandBase", name := "saves", desc := "()I" } : Jvm.MethodName)) ∈ xW := xW_in (tb_in_5 (List.mem_of_getElem? (i := 5) (by decide +kernel))) rfl
theorem wd_966 : (Jvm.Cond.selects "LandBase" ({ cls := "LandBase", name := "saves", desc := "()I" } : Jvm.MethodName) ({ cls := "LandBase", name := "saves", desc := "()I" } : Jvm.MethodName)) ∈ xW := xW_in (tb_in_5 (List.mem_of_getElem? (i := 6) (by decide +kernel))) rfl
theorem wd_967 : (Jvm.Cond.code ({ cls := "LandBase", name := "saves", desc := "()I" } : Jvm.MethodName) prog_1_method_21_code (1 : Nat) (Option.some Jvm.ClassFile.FieldType.int)) ∈ xW := xW_in (tb_in_5 (List.mem_of_getElem? (i := 7) rfl)) rfl
theorem wd_968 : (Jvm.Cond.methodLink "LandBaseLaw" (102 : Nat) ({ cls := "LandBase", name := "flaws", desc := "()I" } : Jvm.MethodName)) ∈ xW := xW_in (tb_in_5 (List.mem_of_getElem? (i := 8) (by decide +kernel))) rfl
theorem wd_969 : (Jvm.Cond.instanceMethod ({ cls := "LandBase", name := "flaws", desc := "()I" } : Jvm.MethodName)) ∈ xW := xW_in (tb_in_5 (List.mem_of_getElem? (i := 9) (by decide +kernel))) rfl
theorem wd_970 : (Jvm.Cond.selects "LandBase" ({ cls := "LandBase", name := "flaws", desc := "()I" } : Jvm.MethodName) ({ cls := "LandBase", name := "flaws", desc := "()I" } : Jvm.MethodName)) ∈ xW := xW_in (tb_in_5 (List.mem_of_getElem? (i := 10) (by decide +kernel))) rfl
theorem wd_971 : (Jvm.Cond.code ({ cls := "LandBase", name := "flaws", desc := "()I" } : Jvm.MethodName) prog_1_method_22_code (1 : Nat) (Option.some Jvm.ClassFile.FieldType.int)) ∈ xW := xW_in (tb_in_5 (List.mem_of_getElem? (i := 11) rfl)) rfl
theorem wd_972 : (Jvm.Cond.methodLink "LandBase" (201 : Nat) ({ cls := "LandBase$Keeper", name := "countFlaws", desc := "()I" } : Jvm.MethodName)) ∈ xW := xW_in (tb_in_5 (List.mem_of_getElem? (i := 12) (by decide +kernel))) rfl
theorem wd_973 : (Jvm.Cond.instanceMethod ({ cls := "LandBase$Keeper", name := "countFlaws", desc := "()I" } : Jvm.MethodName)) ∈ xW := xW_in (tb_in_5 (List.mem_of_getElem? (i := 13) (by decide +kernel))) rfl
theorem wd_974 : (Jvm.Cond.selects "LandBase$Keeper" ({ cls := "LandBase$Keeper", name := "countFlaws", desc := "()I" } : Jvm.MethodName) ({ cls := "LandBase$Keeper", name := "countFlaws", desc := "()I" } : Jvm.MethodName)) ∈ xW := xW_in (tb_in_5 (List.mem_of_getElem? (i := 14) (by decide +kernel))) rfl
theorem wd_975 : (Jvm.Cond.code ({ cls := "LandBase$Keeper", name := "countFlaws", desc := "()I" } : Jvm.MethodName) prog_5_method_12_code (2 : Nat) (Option.some Jvm.ClassFile.FieldType.int)) ∈ xW := xW_in (tb_in_5 (List.mem_of_getElem? (i := 15) rfl)) rfl
theorem wd_976 : (Jvm.Cond.methodLink "LandBase$Keeper" (81 : Nat) ({ cls := "LandBase$Table", name := "countBadRows", desc := "()I" } : Jvm.MethodName)) ∈ xW := xW_in (tb_in_5 (List.mem_of_getElem? (i := 16) (by decide +kernel))) rfl
theorem wd_977 : (Jvm.Cond.instanceMethod ({ cls := "LandBase$Table", name := "countBadRows", desc := "()I" } : Jvm.MethodName)) ∈ xW := xW_in (tb_in_5 (List.mem_of_getElem? (i := 17) (by decide +kernel))) rfl
theorem wd_978 : (Jvm.Cond.selects "LandBase$Table" ({ cls := "LandBase$Table", name := "countBadRows", desc := "()I" } : Jvm.MethodName) ({ cls := "LandBase$Table", name := "countBadRows", desc := "()I" } : Jvm.MethodName)) ∈ xW := xW_in (tb_in_5 (List.mem_of_getElem? (i := 18) (by decide +kernel))) rfl
theorem wd_979 : (Jvm.Cond.code ({ cls := "LandBase$Table", name := "countBadRows", desc := "()I" } : Jvm.MethodName) prog_10_method_8_code (6 : Nat) (Option.some Jvm.ClassFile.FieldType.int)) ∈ xW := xW_in (tb_in_5 (List.mem_of_getElem? (i := 19) rfl)) rfl
theorem wd_980 : (Jvm.Cond.classLink "LandBaseLaw" (10 : Nat) "LandBaseModel") ∈ xW := xW_in (tb_in_5 (List.mem_of_getElem? (i := 20) (by decide +kernel))) rfl
theorem wd_981 : (Jvm.Cond.instantiable "LandBaseModel" (58 : Nat)) ∈ xW := xW_in (tb_in_5 (List.mem_of_getElem? (i := 21) (by decide +kernel))) rfl
theorem wd_982 : (Jvm.Cond.methodLink "LandBaseLaw" (12 : Nat) ({ cls := "LandBaseModel", name := "<init>", desc := "()V" } : Jvm.MethodName)) ∈ xW := xW_in (tb_in_5 (List.mem_of_getElem? (i := 22) (by decide +kernel))) rfl
theorem wd_983 : (Jvm.Cond.instanceMethod ({ cls := "LandBaseModel", name := "<init>", desc := "()V" } : Jvm.MethodName)) ∈ xW := xW_in (tb_in_5 (List.mem_of_getElem? (i := 23) (by decide +kernel))) rfl
theorem wd_984 : (Jvm.Cond.code ({ cls := "LandBaseModel", name := "<init>", desc := "()V" } : Jvm.MethodName) prog_13_method_65_code (2 : Nat) (Option.none : Option Jvm.ClassFile.FieldType)) ∈ xW := xW_in (tb_in_5 (List.mem_of_getElem? (i := 24) rfl)) rfl
theorem wd_985 : (Jvm.Cond.methodLink "LandBaseModel" (457 : Nat) ({ cls := "java/lang/Object", name := "<init>", desc := "()V" } : Jvm.MethodName)) ∈ xW := xW_in (tb_in_5 (List.mem_of_getElem? (i := 25) (by decide +kernel))) rfl
theorem wd_986 : (Jvm.Cond.classLink "LandBaseModel" (31 : Nat) "LandBaseModel$Shape") ∈ xW := xW_in (tb_in_5 (List.mem_of_getElem? (i := 26) (by decide +kernel))) rfl
theorem wd_987 : (Jvm.Cond.instantiable "LandBaseModel$Shape" (7 : Nat)) ∈ xW := xW_in (tb_in_5 (List.mem_of_getElem? (i := 27) (by decide +kernel))) rfl
theorem wd_988 : (Jvm.Cond.methodLinkNest "LandBaseModel" (462 : Nat) ({ cls := "LandBaseModel$Shape", name := "<init>", desc := "()V" } : Jvm.MethodName) "LandBaseModel") ∈ xN := xN_in (tb_in_5 (List.mem_of_getElem? (i := 28) (by decide +kernel))) rfl
theorem wd_989 : (Jvm.Cond.instanceMethod ({ cls := "LandBaseModel$Shape", name := "<init>", desc := "()V" } : Jvm.MethodName)) ∈ xW := xW_in (tb_in_5 (List.mem_of_getElem? (i := 29) (by decide +kernel))) rfl
theorem wd_990 : (Jvm.Cond.code ({ cls := "LandBaseModel$Shape", name := "<init>", desc := "()V" } : Jvm.MethodName) prog_15_method_1_code (1 : Nat) (Option.none : Option Jvm.ClassFile.FieldType)) ∈ xW := xW_in (tb_in_5 (List.mem_of_getElem? (i := 30) rfl)) rfl
theorem wd_991 : (Jvm.Cond.methodLink "LandBaseModel$Shape" (3 : Nat) ({ cls := "java/lang/Object", name := "<init>", desc := "()V" } : Jvm.MethodName)) ∈ xW := xW_in (tb_in_5 (List.mem_of_getElem? (i := 31) (by decide +kernel))) rfl
theorem wd_1001 : (Jvm.Cond.fieldLink "LandBaseModel$Shape" (9 : Nat) "LandBaseModel$Shape" "ends" "[I") ∈ xW := xW_in (tb_in_5 (List.mem_of_getElem? (i := 41) (by decide +kernel))) rfl
theorem wd_1003 : (Jvm.Cond.fieldLink "LandBaseModel$Shape" (15 : Nat) "LandBaseModel$Shape" "xs" "[I") ∈ xW := xW_in (tb_in_5 (List.mem_of_getElem? (i := 43) (by decide +kernel))) rfl
theorem wd_1005 : (Jvm.Cond.fieldLink "LandBaseModel$Shape" (18 : Nat) "LandBaseModel$Shape" "ys" "[I") ∈ xW := xW_in (tb_in_5 (List.mem_of_getElem? (i := 45) (by decide +kernel))) rfl
theorem wd_1022 : (Jvm.Cond.classLink "LandBaseModel" (289 : Nat) "LandBaseModel$Distance") ∈ xW := xW_in (tb_in_5 (List.mem_of_getElem? (i := 62) (by decide +kernel))) rfl
theorem wd_1023 : (Jvm.Cond.instantiable "LandBaseModel$Distance" (2 : Nat)) ∈ xW := xW_in (tb_in_5 (List.mem_of_getElem? (i := 63) (by decide +kernel))) rfl
theorem wd_1024 : (Jvm.Cond.methodLinkNest "LandBaseModel" (463 : Nat) ({ cls := "LandBaseModel$Distance", name := "<init>", desc := "()V" } : Jvm.MethodName) "LandBaseModel") ∈ xN := xN_in (tb_in_5 (List.mem_of_getElem? (i := 64) (by decide +kernel))) rfl
theorem wd_1025 : (Jvm.Cond.instanceMethod ({ cls := "LandBaseModel$Distance", name := "<init>", desc := "()V" } : Jvm.MethodName)) ∈ xW := xW_in (tb_in_5 (List.mem_of_getElem? (i := 65) (by decide +kernel))) rfl
theorem wd_1026 : (Jvm.Cond.code ({ cls := "LandBaseModel$Distance", name := "<init>", desc := "()V" } : Jvm.MethodName) prog_14_method_1_code (1 : Nat) (Option.none : Option Jvm.ClassFile.FieldType)) ∈ xW := xW_in (tb_in_5 (List.mem_of_getElem? (i := 66) rfl)) rfl
theorem wd_1027 : (Jvm.Cond.methodLink "LandBaseModel$Distance" (3 : Nat) ({ cls := "java/lang/Object", name := "<init>", desc := "()V" } : Jvm.MethodName)) ∈ xW := xW_in (tb_in_5 (List.mem_of_getElem? (i := 67) (by decide +kernel))) rfl
theorem wd_1028 : (Jvm.Cond.fieldLink "LandBaseModel$Distance" (9 : Nat) "LandBaseModel$Distance" "num" "[J") ∈ xW := xW_in (tb_in_5 (List.mem_of_getElem? (i := 68) (by decide +kernel))) rfl
theorem wd_1030 : (Jvm.Cond.fieldLink "LandBaseModel$Distance" (15 : Nat) "LandBaseModel$Distance" "den" "[J") ∈ xW := xW_in (tb_in_5 (List.mem_of_getElem? (i := 70) (by decide +kernel))) rfl
theorem wd_1037 : (Jvm.Cond.classLink "LandBaseModel" (355 : Nat) "LandBaseModel$State") ∈ xW := xW_in (tb_in_5 (List.mem_of_getElem? (i := 77) (by decide +kernel))) rfl
theorem wd_1038 : (Jvm.Cond.instantiable "LandBaseModel$State" (2 : Nat)) ∈ xW := xW_in (tb_in_5 (List.mem_of_getElem? (i := 78) (by decide +kernel))) rfl
theorem wd_1039 : (Jvm.Cond.methodLink "LandBaseModel" (470 : Nat) ({ cls := "LandBaseModel$State", name := "<init>", desc := "()V" } : Jvm.MethodName)) ∈ xW := xW_in (tb_in_5 (List.mem_of_getElem? (i := 79) (by decide +kernel))) rfl
theorem wd_1040 : (Jvm.Cond.instanceMethod ({ cls := "LandBaseModel$State", name := "<init>", desc := "()V" } : Jvm.MethodName)) ∈ xW := xW_in (tb_in_5 (List.mem_of_getElem? (i := 80) (by decide +kernel))) rfl
theorem wd_1041 : (Jvm.Cond.code ({ cls := "LandBaseModel$State", name := "<init>", desc := "()V" } : Jvm.MethodName) prog_16_method_1_code (2 : Nat) (Option.none : Option Jvm.ClassFile.FieldType)) ∈ xW := xW_in (tb_in_5 (List.mem_of_getElem? (i := 81) rfl)) rfl
theorem wd_1042 : (Jvm.Cond.methodLink "LandBaseModel$State" (3 : Nat) ({ cls := "java/lang/Object", name := "<init>", desc := "()V" } : Jvm.MethodName)) ∈ xW := xW_in (tb_in_5 (List.mem_of_getElem? (i := 82) (by decide +kernel))) rfl
theorem wd_1043 : (Jvm.Cond.classLink "LandBaseModel$State" (9 : Nat) "LandBaseModel$Shape") ∈ xW := xW_in (tb_in_5 (List.mem_of_getElem? (i := 83) (by decide +kernel))) rfl
theorem wd_1045 : (Jvm.Cond.methodLinkNest "LandBaseModel$State" (17 : Nat) ({ cls := "LandBaseModel$Shape", name := "<init>", desc := "()V" } : Jvm.MethodName) "LandBaseModel") ∈ xN := xN_in (tb_in_5 (List.mem_of_getElem? (i := 85) (by decide +kernel))) rfl
theorem wd_1046 : (Jvm.Cond.fieldLink "LandBaseModel$State" (11 : Nat) "LandBaseModel$State" "all" "[LLandBaseModel$Shape;") ∈ xW := xW_in (tb_in_5 (List.mem_of_getElem? (i := 86) (by decide +kernel))) rfl
theorem wd_1048 : (Jvm.Cond.fieldLink "LandBaseModel$State" (18 : Nat) "LandBaseModel$State" "count" "I") ∈ xW := xW_in (tb_in_5 (List.mem_of_getElem? (i := 88) (by decide +kernel))) rfl
theorem wd_1049 : (Jvm.Cond.fieldLink "LandBaseModel" (581 : Nat) "LandBaseModel$State" "count" "I") ∈ xW := xW_in (tb_in_5 (List.mem_of_getElem? (i := 89) (by decide +kernel))) rfl
theorem wd_1056 : (Jvm.Cond.fieldLink "LandBaseModel" (5 : Nat) "LandBaseModel" "wideOne" "[J") ∈ xW := xW_in (tb_in_5 (List.mem_of_getElem? (i := 96) (by decide +kernel))) rfl
theorem wd_1057 : (Jvm.Cond.fieldLink "LandBaseModel" (13 : Nat) "LandBaseModel" "wideTwo" "[J") ∈ xW := xW_in (tb_in_5 (List.mem_of_getElem? (i := 97) (by decide +kernel))) rfl
theorem wd_1058 : (Jvm.Cond.fieldLink "LandBaseModel" (16 : Nat) "LandBaseModel" "wideLeft" "[J") ∈ xW := xW_in (tb_in_5 (List.mem_of_getElem? (i := 98) (by decide +kernel))) rfl
theorem wd_1059 : (Jvm.Cond.fieldLink "LandBaseModel" (23 : Nat) "LandBaseModel" "wideRight" "[J") ∈ xW := xW_in (tb_in_5 (List.mem_of_getElem? (i := 99) (by decide +kernel))) rfl
theorem wd_1070 : (Jvm.Cond.fieldLink "LandBaseModel" (111 : Nat) "LandBaseModel" "cutParts" "[J") ∈ xW := xW_in (tb_in_5 (List.mem_of_getElem? (i := 110) (by decide +kernel))) rfl
theorem wd_1071 : (Jvm.Cond.fieldLink "LandBaseModel" (117 : Nat) "LandBaseModel" "cutWholes" "[J") ∈ xW := xW_in (tb_in_5 (List.mem_of_getElem? (i := 111) (by decide +kernel))) rfl
theorem wd_1079 : (Jvm.Cond.fieldLink "LandBaseModel" (156 : Nat) "LandBaseModel" "lefts" "[Z") ∈ xW := xW_in (tb_in_5 (List.mem_of_getElem? (i := 119) (by decide +kernel))) rfl
theorem wd_1080 : (Jvm.Cond.fieldLink "LandBaseModel" (254 : Nat) "LandBaseModel" "ringLine" "LLandBaseModel$Shape;") ∈ xW := xW_in (tb_in_5 (List.mem_of_getElem? (i := 120) (by decide +kernel))) rfl
theorem wd_1081 : (Jvm.Cond.fieldLink "LandBaseModel" (262 : Nat) "LandBaseModel" "ringArea" "LLandBaseModel$Shape;") ∈ xW := xW_in (tb_in_5 (List.mem_of_getElem? (i := 121) (by decide +kernel))) rfl
theorem wd_1082 : (Jvm.Cond.fieldLink "LandBaseModel" (265 : Nat) "LandBaseModel" "groups" "[I") ∈ xW := xW_in (tb_in_5 (List.mem_of_getElem? (i := 122) (by decide +kernel))) rfl
theorem wd_1083 : (Jvm.Cond.fieldLink "LandBaseModel" (296 : Nat) "LandBaseModel" "here" "LLandBaseModel$Distance;") ∈ xW := xW_in (tb_in_5 (List.mem_of_getElem? (i := 123) (by decide +kernel))) rfl
theorem wd_1084 : (Jvm.Cond.fieldLink "LandBaseModel" (464 : Nat) "LandBaseModel" "nearOne" "LLandBaseModel$Distance;") ∈ xW := xW_in (tb_in_5 (List.mem_of_getElem? (i := 124) (by decide +kernel))) rfl
theorem wd_1085 : (Jvm.Cond.fieldLink "LandBaseModel" (467 : Nat) "LandBaseModel" "nearTwo" "LLandBaseModel$Distance;") ∈ xW := xW_in (tb_in_5 (List.mem_of_getElem? (i := 125) (by decide +kernel))) rfl
theorem wd_1086 : (Jvm.Cond.fieldLink "LandBaseModel" (351 : Nat) "LandBaseModel" "live" "LLandBaseModel$State;") ∈ xW := xW_in (tb_in_5 (List.mem_of_getElem? (i := 126) (by decide +kernel))) rfl
theorem wd_1087 : (Jvm.Cond.fieldLink "LandBaseModel" (347 : Nat) "LandBaseModel" "committed" "LLandBaseModel$State;") ∈ xW := xW_in (tb_in_5 (List.mem_of_getElem? (i := 127) (by decide +kernel))) rfl
theorem wd_1088 : (Jvm.Cond.fieldLink "LandBaseModel" (321 : Nat) "LandBaseModel" "isOpen" "Z") ∈ xW := xW_in (tb_in_5 (List.mem_of_getElem? (i := 128) (by decide +kernel))) rfl
theorem wd_1089 : (Jvm.Cond.fieldLink "LandBaseModel" (318 : Nat) "LandBaseModel" "isDown" "Z") ∈ xW := xW_in (tb_in_5 (List.mem_of_getElem? (i := 129) (by decide +kernel))) rfl
theorem wd_1090 : (Jvm.Cond.fieldLink "LandBaseModel" (338 : Nat) "LandBaseModel" "bytes" "I") ∈ xW := xW_in (tb_in_5 (List.mem_of_getElem? (i := 130) (by decide +kernel))) rfl
theorem wd_1091 : (Jvm.Cond.fieldLink "LandBaseModel" (332 : Nat) "LandBaseModel" "used" "I") ∈ xW := xW_in (tb_in_5 (List.mem_of_getElem? (i := 131) (by decide +kernel))) rfl
theorem wd_1092 : (Jvm.Cond.fieldLink "LandBaseModel" (335 : Nat) "LandBaseModel" "saves" "I") ∈ xW := xW_in (tb_in_5 (List.mem_of_getElem? (i := 132) (by decide +kernel))) rfl
theorem wd_1093 : (Jvm.Cond.fieldLink "LandBaseModel" (323 : Nat) "LandBaseModel" "crashKind" "I") ∈ xW := xW_in (tb_in_5 (List.mem_of_getElem? (i := 133) (by decide +kernel))) rfl
theorem wd_1094 : (Jvm.Cond.fieldLink "LandBaseModel" (326 : Nat) "LandBaseModel" "crashIn" "I") ∈ xW := xW_in (tb_in_5 (List.mem_of_getElem? (i := 134) (by decide +kernel))) rfl
theorem wd_1095 : (Jvm.Cond.fieldLink "LandBaseModel" (376 : Nat) "LandBaseModel" "tape" "[I") ∈ xW := xW_in (tb_in_5 (List.mem_of_getElem? (i := 135) (by decide +kernel))) rfl
theorem wd_1096 : (Jvm.Cond.fieldLink "LandBaseModel" (373 : Nat) "LandBaseModel" "size" "I") ∈ xW := xW_in (tb_in_5 (List.mem_of_getElem? (i := 136) (by decide +kernel))) rfl
theorem wd_1097 : (Jvm.Cond.fieldLink "LandBaseModel" (379 : Nat) "LandBaseModel" "at" "I") ∈ xW := xW_in (tb_in_5 (List.mem_of_getElem? (i := 137) (by decide +kernel))) rfl
theorem wd_1098 : (Jvm.Cond.fieldLink "LandBaseModel" (370 : Nat) "LandBaseModel" "wrongAt" "I") ∈ xW := xW_in (tb_in_5 (List.mem_of_getElem? (i := 138) (by decide +kernel))) rfl
theorem wd_1099 : (Jvm.Cond.fieldLink "LandBaseModel" (359 : Nat) "LandBaseModel" "ints" "[I") ∈ xW := xW_in (tb_in_5 (List.mem_of_getElem? (i := 139) (by decide +kernel))) rfl
theorem wd_1100 : (Jvm.Cond.fieldLink "LandBaseModel" (362 : Nat) "LandBaseModel" "outs" "I") ∈ xW := xW_in (tb_in_5 (List.mem_of_getElem? (i := 140) (by decide +kernel))) rfl
theorem wd_1101 : (Jvm.Cond.fieldLink "LandBaseModel" (385 : Nat) "LandBaseModel" "token" "I") ∈ xW := xW_in (tb_in_5 (List.mem_of_getElem? (i := 141) (by decide +kernel))) rfl
theorem wd_1102 : (Jvm.Cond.fieldLink "LandBaseModel" (368 : Nat) "LandBaseModel" "begin" "I") ∈ xW := xW_in (tb_in_5 (List.mem_of_getElem? (i := 142) (by decide +kernel))) rfl
theorem wd_1104 : (Jvm.Cond.fieldLink "LandBaseModel" (365 : Nat) "LandBaseModel" "isWrong" "Z") ∈ xW := xW_in (tb_in_5 (List.mem_of_getElem? (i := 144) (by decide +kernel))) rfl
theorem wd_1105 : (Jvm.Cond.fieldLink "LandBaseModel" (432 : Nat) "LandBaseModel" "shape" "LLandBaseModel$Shape;") ∈ xW := xW_in (tb_in_5 (List.mem_of_getElem? (i := 145) (by decide +kernel))) rfl
theorem wd_1108 : (Jvm.Cond.fieldLink "LandBaseModel" (471 : Nat) "LandBaseModel" "args" "[I") ∈ xW := xW_in (tb_in_5 (List.mem_of_getElem? (i := 148) (by decide +kernel))) rfl
theorem wd_1109 : (Jvm.Cond.fieldLink "LandBaseModel" (474 : Nat) "LandBaseModel" "window" "LLandBaseModel$Shape;") ∈ xW := xW_in (tb_in_5 (List.mem_of_getElem? (i := 149) (by decide +kernel))) rfl
theorem wd_1110 : (Jvm.Cond.fieldLink "LandBaseModel" (477 : Nat) "LandBaseModel" "distances" "[LLandBaseModel$Distance;") ∈ xW := xW_in (tb_in_5 (List.mem_of_getElem? (i := 150) (by decide +kernel))) rfl
theorem wd_1111 : (Jvm.Cond.fieldLink "LandBaseModel" (481 : Nat) "LandBaseModel" "order" "[I") ∈ xW := xW_in (tb_in_5 (List.mem_of_getElem? (i := 151) (by decide +kernel))) rfl
theorem wd_1231 : (Jvm.Cond.methodLink "LandBaseLaw" (19 : Nat) ({ cls := "LandBaseModel", name := "feed", desc := "(JJJJJ)I" } : Jvm.MethodName)) ∈ xW := xW_in (tb_in_6 (List.mem_of_getElem? (i := 31) (by decide +kernel))) rfl
theorem wd_1232 : (Jvm.Cond.instanceMethod ({ cls := "LandBaseModel", name := "feed", desc := "(JJJJJ)I" } : Jvm.MethodName)) ∈ xW := xW_in (tb_in_6 (List.mem_of_getElem? (i := 32) (by decide +kernel))) rfl
theorem wd_1233 : (Jvm.Cond.selects "LandBaseModel" ({ cls := "LandBaseModel", name := "feed", desc := "(JJJJJ)I" } : Jvm.MethodName) ({ cls := "LandBaseModel", name := "feed", desc := "(JJJJJ)I" } : Jvm.MethodName)) ∈ xW := xW_in (tb_in_6 (List.mem_of_getElem? (i := 33) (by decide +kernel))) rfl
theorem wd_1234 : (Jvm.Cond.code ({ cls := "LandBaseModel", name := "feed", desc := "(JJJJJ)I" } : Jvm.MethodName) prog_13_method_87_code (11 : Nat) (Option.some Jvm.ClassFile.FieldType.int)) ∈ xW := xW_in (tb_in_6 (List.mem_of_getElem? (i := 34) rfl)) rfl
theorem wd_1235 : (Jvm.Cond.methodLink "LandBaseModel" (644 : Nat) ({ cls := "LandBaseModel", name := "lay", desc := "(J)V" } : Jvm.MethodName)) ∈ xW := xW_in (tb_in_6 (List.mem_of_getElem? (i := 35) (by decide +kernel))) rfl
theorem wd_1237 : (Jvm.Cond.instanceMethod ({ cls := "LandBaseModel", name := "lay", desc := "(J)V" } : Jvm.MethodName)) ∈ xW := xW_in (tb_in_6 (List.mem_of_getElem? (i := 37) (by decide +kernel))) rfl
theorem wd_1238 : (Jvm.Cond.code ({ cls := "LandBaseModel", name := "lay", desc := "(J)V" } : Jvm.MethodName) prog_13_method_86_code (4 : Nat) (Option.none : Option Jvm.ClassFile.FieldType)) ∈ xW := xW_in (tb_in_6 (List.mem_of_getElem? (i := 38) rfl)) rfl
theorem wd_1239 : (Jvm.Cond.constantLong "LandBaseModel" (642 : Nat) (255 : Int64)) ∈ xW := xW_in (tb_in_6 (List.mem_of_getElem? (i := 39) (by decide +kernel))) rfl
theorem wd_1240 : (Jvm.Cond.methodLink "LandBaseLaw" (24 : Nat) ({ cls := "LandBaseModel", name := "end", desc := "(I)I" } : Jvm.MethodName)) ∈ xW := xW_in (tb_in_6 (List.mem_of_getElem? (i := 40) (by decide +kernel))) rfl
theorem wd_1241 : (Jvm.Cond.instanceMethod ({ cls := "LandBaseModel", name := "end", desc := "(I)I" } : Jvm.MethodName)) ∈ xW := xW_in (tb_in_6 (List.mem_of_getElem? (i := 41) (by decide +kernel))) rfl
theorem wd_1242 : (Jvm.Cond.selects "LandBaseModel" ({ cls := "LandBaseModel", name := "end", desc := "(I)I" } : Jvm.MethodName) ({ cls := "LandBaseModel", name := "end", desc := "(I)I" } : Jvm.MethodName)) ∈ xW := xW_in (tb_in_6 (List.mem_of_getElem? (i := 42) (by decide +kernel))) rfl
theorem wd_1243 : (Jvm.Cond.code ({ cls := "LandBaseModel", name := "end", desc := "(I)I" } : Jvm.MethodName) prog_13_method_88_code (2 : Nat) (Option.some Jvm.ClassFile.FieldType.int)) ∈ xW := xW_in (tb_in_6 (List.mem_of_getElem? (i := 43) rfl)) rfl
theorem wd_1244 : (Jvm.Cond.methodLink "LandBaseLaw" (29 : Nat) ({ cls := "LandBaseModel", name := "run", desc := "()I" } : Jvm.MethodName)) ∈ xW := xW_in (tb_in_6 (List.mem_of_getElem? (i := 44) (by decide +kernel))) rfl
theorem wd_1245 : (Jvm.Cond.instanceMethod ({ cls := "LandBaseModel", name := "run", desc := "()I" } : Jvm.MethodName)) ∈ xW := xW_in (tb_in_6 (List.mem_of_getElem? (i := 45) (by decide +kernel))) rfl
theorem wd_1246 : (Jvm.Cond.selects "LandBaseModel" ({ cls := "LandBaseModel", name := "run", desc := "()I" } : Jvm.MethodName) ({ cls := "LandBaseModel", name := "run", desc := "()I" } : Jvm.MethodName)) ∈ xW := xW_in (tb_in_6 (List.mem_of_getElem? (i := 46) (by decide +kernel))) rfl
theorem wd_1247 : (Jvm.Cond.code ({ cls := "LandBaseModel", name := "run", desc := "()I" } : Jvm.MethodName) prog_13_method_89_code (2 : Nat) (Option.some Jvm.ClassFile.FieldType.int)) ∈ xW := xW_in (tb_in_6 (List.mem_of_getElem? (i := 47) rfl)) rfl
theorem wd_1248 : (Jvm.Cond.methodLink "LandBaseModel" (423 : Nat) ({ cls := "LandBaseModel", name := "next", desc := "()V" } : Jvm.MethodName)) ∈ xW := xW_in (tb_in_6 (List.mem_of_getElem? (i := 48) (by decide +kernel))) rfl
theorem wd_1250 : (Jvm.Cond.instanceMethod ({ cls := "LandBaseModel", name := "next", desc := "()V" } : Jvm.MethodName)) ∈ xW := xW_in (tb_in_6 (List.mem_of_getElem? (i := 50) (by decide +kernel))) rfl
theorem wd_1251 : (Jvm.Cond.code ({ cls := "LandBaseModel", name := "next", desc := "()V" } : Jvm.MethodName) prog_13_method_55_code (2 : Nat) (Option.none : Option Jvm.ClassFile.FieldType)) ∈ xW := xW_in (tb_in_6 (List.mem_of_getElem? (i := 51) rfl)) rfl
theorem wd_1252 : (Jvm.Cond.methodLink "LandBaseModel" (382 : Nat) ({ cls := "LandBaseModel", name := "byteAt", desc := "(I)I" } : Jvm.MethodName)) ∈ xW := xW_in (tb_in_6 (List.mem_of_getElem? (i := 52) (by decide +kernel))) rfl
theorem wd_1254 : (Jvm.Cond.instanceMethod ({ cls := "LandBaseModel", name := "byteAt", desc := "(I)I" } : Jvm.MethodName)) ∈ xW := xW_in (tb_in_6 (List.mem_of_getElem? (i := 54) (by decide +kernel))) rfl
theorem wd_1255 : (Jvm.Cond.code ({ cls := "LandBaseModel", name := "byteAt", desc := "(I)I" } : Jvm.MethodName) prog_13_method_52_code (2 : Nat) (Option.some Jvm.ClassFile.FieldType.int)) ∈ xW := xW_in (tb_in_6 (List.mem_of_getElem? (i := 55) rfl)) rfl
end
section
theorem wd_1335 : (Jvm.Cond.methodLink "LandBaseModel" (573 : Nat) ({ cls := "LandBaseModel$State", name := "find", desc := "(I)I" } : Jvm.MethodName)) ∈ xW := xW_in (tb_in_6 (List.mem_of_getElem? (i := 135) (by decide +kernel))) rfl
theorem wd_1336 : (Jvm.Cond.instanceMethod ({ cls := "LandBaseModel$State", name := "find", desc := "(I)I" } : Jvm.MethodName)) ∈ xW := xW_in (tb_in_6 (List.mem_of_getElem? (i := 136) (by decide +kernel))) rfl
theorem wd_1337 : (Jvm.Cond.selects "LandBaseModel$State" ({ cls := "LandBaseModel$State", name := "find", desc := "(I)I" } : Jvm.MethodName) ({ cls := "LandBaseModel$State", name := "find", desc := "(I)I" } : Jvm.MethodName)) ∈ xW := xW_in (tb_in_6 (List.mem_of_getElem? (i := 137) (by decide +kernel))) rfl
theorem wd_1338 : (Jvm.Cond.code ({ cls := "LandBaseModel$State", name := "find", desc := "(I)I" } : Jvm.MethodName) prog_16_method_3_code (3 : Nat) (Option.some Jvm.ClassFile.FieldType.int)) ∈ xW := xW_in (tb_in_6 (List.mem_of_getElem? (i := 138) rfl)) rfl
theorem wd_1495 : (Jvm.Cond.methodLink "LandBaseModel" (354 : Nat) ({ cls := "LandBaseModel$State", name := "take", desc := "(LLandBaseModel$State;)V" } : Jvm.MethodName)) ∈ xW := xW_in (tb_in_7 (List.mem_of_getElem? (i := 55) (by decide +kernel))) rfl
theorem wd_1496 : (Jvm.Cond.instanceMethod ({ cls := "LandBaseModel$State", name := "take", desc := "(LLandBaseModel$State;)V" } : Jvm.MethodName)) ∈ xW := xW_in (tb_in_7 (List.mem_of_getElem? (i := 56) (by decide +kernel))) rfl
theorem wd_1497 : (Jvm.Cond.selects "LandBaseModel$State" ({ cls := "LandBaseModel$State", name := "take", desc := "(LLandBaseModel$State;)V" } : Jvm.MethodName) ({ cls := "LandBaseModel$State", name := "take", desc := "(LLandBaseModel$State;)V" } : Jvm.MethodName)) ∈ xW := xW_in (tb_in_7 (List.mem_of_getElem? (i := 57) (by decide +kernel))) rfl
theorem wd_1498 : (Jvm.Cond.code ({ cls := "LandBaseModel$State", name := "take", desc := "(LLandBaseModel$State;)V" } : Jvm.MethodName) prog_16_method_2_code (3 : Nat) (Option.none : Option Jvm.ClassFile.FieldType)) ∈ xW := xW_in (tb_in_7 (List.mem_of_getElem? (i := 58) rfl)) rfl
theorem wd_1649 : (Jvm.Cond.methodLink "LandBaseLaw" (33 : Nat) ({ cls := "LandBaseModel", name := "wrong", desc := "()I" } : Jvm.MethodName)) ∈ xW := xW_in (tb_in_7 (List.mem_of_getElem? (i := 209) (by decide +kernel))) rfl
theorem wd_1650 : (Jvm.Cond.instanceMethod ({ cls := "LandBaseModel", name := "wrong", desc := "()I" } : Jvm.MethodName)) ∈ xW := xW_in (tb_in_7 (List.mem_of_getElem? (i := 210) (by decide +kernel))) rfl
theorem wd_1651 : (Jvm.Cond.selects "LandBaseModel" ({ cls := "LandBaseModel", name := "wrong", desc := "()I" } : Jvm.MethodName) ({ cls := "LandBaseModel", name := "wrong", desc := "()I" } : Jvm.MethodName)) ∈ xW := xW_in (tb_in_7 (List.mem_of_getElem? (i := 211) (by decide +kernel))) rfl
theorem wd_1652 : (Jvm.Cond.code ({ cls := "LandBaseModel", name := "wrong", desc := "()I" } : Jvm.MethodName) prog_13_method_90_code (1 : Nat) (Option.some Jvm.ClassFile.FieldType.int)) ∈ xW := xW_in (tb_in_7 (List.mem_of_getElem? (i := 212) rfl)) rfl
theorem wd_1653 : (Jvm.Cond.methodLink "LandBaseLaw" (37 : Nat) ({ cls := "LandBaseModel", name := "outputs", desc := "()I" } : Jvm.MethodName)) ∈ xW := xW_in (tb_in_7 (List.mem_of_getElem? (i := 213) (by decide +kernel))) rfl
theorem wd_1654 : (Jvm.Cond.instanceMethod ({ cls := "LandBaseModel", name := "outputs", desc := "()I" } : Jvm.MethodName)) ∈ xW := xW_in (tb_in_7 (List.mem_of_getElem? (i := 214) (by decide +kernel))) rfl
theorem wd_1655 : (Jvm.Cond.selects "LandBaseModel" ({ cls := "LandBaseModel", name := "outputs", desc := "()I" } : Jvm.MethodName) ({ cls := "LandBaseModel", name := "outputs", desc := "()I" } : Jvm.MethodName)) ∈ xW := xW_in (tb_in_7 (List.mem_of_getElem? (i := 215) (by decide +kernel))) rfl
theorem wd_1656 : (Jvm.Cond.code ({ cls := "LandBaseModel", name := "outputs", desc := "()I" } : Jvm.MethodName) prog_13_method_91_code (1 : Nat) (Option.some Jvm.ClassFile.FieldType.int)) ∈ xW := xW_in (tb_in_7 (List.mem_of_getElem? (i := 216) rfl)) rfl
theorem wd_1657 : (Jvm.Cond.methodLink "LandBaseLaw" (41 : Nat) ({ cls := "LandBaseModel", name := "out", desc := "(I)I" } : Jvm.MethodName)) ∈ xW := xW_in (tb_in_7 (List.mem_of_getElem? (i := 217) (by decide +kernel))) rfl
theorem wd_1658 : (Jvm.Cond.instanceMethod ({ cls := "LandBaseModel", name := "out", desc := "(I)I" } : Jvm.MethodName)) ∈ xW := xW_in (tb_in_7 (List.mem_of_getElem? (i := 218) (by decide +kernel))) rfl
theorem wd_1659 : (Jvm.Cond.selects "LandBaseModel" ({ cls := "LandBaseModel", name := "out", desc := "(I)I" } : Jvm.MethodName) ({ cls := "LandBaseModel", name := "out", desc := "(I)I" } : Jvm.MethodName)) ∈ xW := xW_in (tb_in_7 (List.mem_of_getElem? (i := 219) (by decide +kernel))) rfl
theorem wd_1660 : (Jvm.Cond.code ({ cls := "LandBaseModel", name := "out", desc := "(I)I" } : Jvm.MethodName) prog_13_method_92_code (2 : Nat) (Option.some Jvm.ClassFile.FieldType.int)) ∈ xW := xW_in (tb_in_7 (List.mem_of_getElem? (i := 220) rfl)) rfl
theorem wd_1661 : (Jvm.Cond.methodLink "LandBaseLaw" (46 : Nat) ({ cls := "LandBaseModel", name := "crash", desc := "(III)Z" } : Jvm.MethodName)) ∈ xW := xW_in (tb_in_7 (List.mem_of_getElem? (i := 221) (by decide +kernel))) rfl
theorem wd_1662 : (Jvm.Cond.instanceMethod ({ cls := "LandBaseModel", name := "crash", desc := "(III)Z" } : Jvm.MethodName)) ∈ xW := xW_in (tb_in_7 (List.mem_of_getElem? (i := 222) (by decide +kernel))) rfl
theorem wd_1663 : (Jvm.Cond.selects "LandBaseModel" ({ cls := "LandBaseModel", name := "crash", desc := "(III)Z" } : Jvm.MethodName) ({ cls := "LandBaseModel", name := "crash", desc := "(III)Z" } : Jvm.MethodName)) ∈ xW := xW_in (tb_in_7 (List.mem_of_getElem? (i := 223) (by decide +kernel))) rfl
theorem wd_1664 : (Jvm.Cond.code ({ cls := "LandBaseModel", name := "crash", desc := "(III)Z" } : Jvm.MethodName) prog_13_method_93_code (4 : Nat) (Option.some Jvm.ClassFile.FieldType.boolean)) ∈ xW := xW_in (tb_in_7 (List.mem_of_getElem? (i := 224) rfl)) rfl
theorem wd_1665 : (Jvm.Cond.methodLink "LandBaseLaw" (50 : Nat) ({ cls := "LandBaseModel", name := "recover", desc := "()I" } : Jvm.MethodName)) ∈ xW := xW_in (tb_in_7 (List.mem_of_getElem? (i := 225) (by decide +kernel))) rfl
theorem wd_1666 : (Jvm.Cond.instanceMethod ({ cls := "LandBaseModel", name := "recover", desc := "()I" } : Jvm.MethodName)) ∈ xW := xW_in (tb_in_7 (List.mem_of_getElem? (i := 226) (by decide +kernel))) rfl
theorem wd_1667 : (Jvm.Cond.selects "LandBaseModel" ({ cls := "LandBaseModel", name := "recover", desc := "()I" } : Jvm.MethodName) ({ cls := "LandBaseModel", name := "recover", desc := "()I" } : Jvm.MethodName)) ∈ xW := xW_in (tb_in_7 (List.mem_of_getElem? (i := 227) (by decide +kernel))) rfl
theorem wd_1668 : (Jvm.Cond.code ({ cls := "LandBaseModel", name := "recover", desc := "()I" } : Jvm.MethodName) prog_13_method_94_code (1 : Nat) (Option.some Jvm.ClassFile.FieldType.int)) ∈ xW := xW_in (tb_in_7 (List.mem_of_getElem? (i := 228) rfl)) rfl
theorem wd_1669 : (Jvm.Cond.methodLink "LandBaseLaw" (55 : Nat) ({ cls := "LandBaseModel", name := "isDown", desc := "()Z" } : Jvm.MethodName)) ∈ xW := xW_in (tb_in_7 (List.mem_of_getElem? (i := 229) (by decide +kernel))) rfl
theorem wd_1670 : (Jvm.Cond.instanceMethod ({ cls := "LandBaseModel", name := "isDown", desc := "()Z" } : Jvm.MethodName)) ∈ xW := xW_in (tb_in_7 (List.mem_of_getElem? (i := 230) (by decide +kernel))) rfl
theorem wd_1671 : (Jvm.Cond.selects "LandBaseModel" ({ cls := "LandBaseModel", name := "isDown", desc := "()Z" } : Jvm.MethodName) ({ cls := "LandBaseModel", name := "isDown", desc := "()Z" } : Jvm.MethodName)) ∈ xW := xW_in (tb_in_7 (List.mem_of_getElem? (i := 231) (by decide +kernel))) rfl
theorem wd_1672 : (Jvm.Cond.code ({ cls := "LandBaseModel", name := "isDown", desc := "()Z" } : Jvm.MethodName) prog_13_method_95_code (1 : Nat) (Option.some Jvm.ClassFile.FieldType.boolean)) ∈ xW := xW_in (tb_in_7 (List.mem_of_getElem? (i := 232) rfl)) rfl
theorem wd_1673 : (Jvm.Cond.methodLink "LandBaseLaw" (59 : Nat) ({ cls := "LandBaseModel", name := "isOpen", desc := "()Z" } : Jvm.MethodName)) ∈ xW := xW_in (tb_in_7 (List.mem_of_getElem? (i := 233) (by decide +kernel))) rfl
theorem wd_1674 : (Jvm.Cond.instanceMethod ({ cls := "LandBaseModel", name := "isOpen", desc := "()Z" } : Jvm.MethodName)) ∈ xW := xW_in (tb_in_7 (List.mem_of_getElem? (i := 234) (by decide +kernel))) rfl
theorem wd_1675 : (Jvm.Cond.selects "LandBaseModel" ({ cls := "LandBaseModel", name := "isOpen", desc := "()Z" } : Jvm.MethodName) ({ cls := "LandBaseModel", name := "isOpen", desc := "()Z" } : Jvm.MethodName)) ∈ xW := xW_in (tb_in_7 (List.mem_of_getElem? (i := 235) (by decide +kernel))) rfl
end
section
theorem wd_1676 : (Jvm.Cond.code ({ cls := "LandBaseModel", name := "isOpen", desc := "()Z" } : Jvm.MethodName) prog_13_method_96_code (1 : Nat) (Option.some Jvm.ClassFile.FieldType.boolean)) ∈ xW := xW_in (tb_in_7 (List.mem_of_getElem? (i := 236) rfl)) rfl
theorem wd_1677 : (Jvm.Cond.methodLink "LandBaseLaw" (63 : Nat) ({ cls := "LandBaseModel", name := "live", desc := "()I" } : Jvm.MethodName)) ∈ xW := xW_in (tb_in_7 (List.mem_of_getElem? (i := 237) (by decide +kernel))) rfl
theorem wd_1678 : (Jvm.Cond.instanceMethod ({ cls := "LandBaseModel", name := "live", desc := "()I" } : Jvm.MethodName)) ∈ xW := xW_in (tb_in_7 (List.mem_of_getElem? (i := 238) (by decide +kernel))) rfl
theorem wd_1679 : (Jvm.Cond.selects "LandBaseModel" ({ cls := "LandBaseModel", name := "live", desc := "()I" } : Jvm.MethodName) ({ cls := "LandBaseModel", name := "live", desc := "()I" } : Jvm.MethodName)) ∈ xW := xW_in (tb_in_7 (List.mem_of_getElem? (i := 239) (by decide +kernel))) rfl
theorem wd_1680 : (Jvm.Cond.code ({ cls := "LandBaseModel", name := "live", desc := "()I" } : Jvm.MethodName) prog_13_method_97_code (1 : Nat) (Option.some Jvm.ClassFile.FieldType.int)) ∈ xW := xW_in (tb_in_8 (List.mem_of_getElem? (i := 0) rfl)) rfl
theorem wd_1681 : (Jvm.Cond.methodLink "LandBaseLaw" (67 : Nat) ({ cls := "LandBaseModel", name := "idAt", desc := "(I)I" } : Jvm.MethodName)) ∈ xW := xW_in (tb_in_8 (List.mem_of_getElem? (i := 1) (by decide +kernel))) rfl
theorem wd_1682 : (Jvm.Cond.instanceMethod ({ cls := "LandBaseModel", name := "idAt", desc := "(I)I" } : Jvm.MethodName)) ∈ xW := xW_in (tb_in_8 (List.mem_of_getElem? (i := 2) (by decide +kernel))) rfl
theorem wd_1683 : (Jvm.Cond.selects "LandBaseModel" ({ cls := "LandBaseModel", name := "idAt", desc := "(I)I" } : Jvm.MethodName) ({ cls := "LandBaseModel", name := "idAt", desc := "(I)I" } : Jvm.MethodName)) ∈ xW := xW_in (tb_in_8 (List.mem_of_getElem? (i := 3) (by decide +kernel))) rfl
theorem wd_1684 : (Jvm.Cond.code ({ cls := "LandBaseModel", name := "idAt", desc := "(I)I" } : Jvm.MethodName) prog_13_method_98_code (2 : Nat) (Option.some Jvm.ClassFile.FieldType.int)) ∈ xW := xW_in (tb_in_8 (List.mem_of_getElem? (i := 4) rfl)) rfl
theorem wd_1685 : (Jvm.Cond.methodLink "LandBaseLaw" (71 : Nat) ({ cls := "LandBaseModel", name := "kindOf", desc := "(I)I" } : Jvm.MethodName)) ∈ xW := xW_in (tb_in_8 (List.mem_of_getElem? (i := 5) (by decide +kernel))) rfl
theorem wd_1686 : (Jvm.Cond.instanceMethod ({ cls := "LandBaseModel", name := "kindOf", desc := "(I)I" } : Jvm.MethodName)) ∈ xW := xW_in (tb_in_8 (List.mem_of_getElem? (i := 6) (by decide +kernel))) rfl
theorem wd_1687 : (Jvm.Cond.selects "LandBaseModel" ({ cls := "LandBaseModel", name := "kindOf", desc := "(I)I" } : Jvm.MethodName) ({ cls := "LandBaseModel", name := "kindOf", desc := "(I)I" } : Jvm.MethodName)) ∈ xW := xW_in (tb_in_8 (List.mem_of_getElem? (i := 7) (by decide +kernel))) rfl
theorem wd_1688 : (Jvm.Cond.code ({ cls := "LandBaseModel", name := "kindOf", desc := "(I)I" } : Jvm.MethodName) prog_13_method_100_code (3 : Nat) (Option.some Jvm.ClassFile.FieldType.int)) ∈ xW := xW_in (tb_in_8 (List.mem_of_getElem? (i := 8) rfl)) rfl
theorem wd_1689 : (Jvm.Cond.methodLink "LandBaseModel" (650 : Nat) ({ cls := "LandBaseModel", name := "standing", desc := "(I)I" } : Jvm.MethodName)) ∈ xW := xW_in (tb_in_8 (List.mem_of_getElem? (i := 9) (by decide +kernel))) rfl
theorem wd_1691 : (Jvm.Cond.instanceMethod ({ cls := "LandBaseModel", name := "standing", desc := "(I)I" } : Jvm.MethodName)) ∈ xW := xW_in (tb_in_8 (List.mem_of_getElem? (i := 11) (by decide +kernel))) rfl
theorem wd_1692 : (Jvm.Cond.code ({ cls := "LandBaseModel", name := "standing", desc := "(I)I" } : Jvm.MethodName) prog_13_method_99_code (2 : Nat) (Option.some Jvm.ClassFile.FieldType.int)) ∈ xW := xW_in (tb_in_8 (List.mem_of_getElem? (i := 12) rfl)) rfl
theorem wd_1693 : (Jvm.Cond.methodLink "LandBaseLaw" (75 : Nat) ({ cls := "LandBaseModel", name := "places", desc := "(I)I" } : Jvm.MethodName)) ∈ xW := xW_in (tb_in_8 (List.mem_of_getElem? (i := 13) (by decide +kernel))) rfl
theorem wd_1694 : (Jvm.Cond.instanceMethod ({ cls := "LandBaseModel", name := "places", desc := "(I)I" } : Jvm.MethodName)) ∈ xW := xW_in (tb_in_8 (List.mem_of_getElem? (i := 14) (by decide +kernel))) rfl
theorem wd_1695 : (Jvm.Cond.selects "LandBaseModel" ({ cls := "LandBaseModel", name := "places", desc := "(I)I" } : Jvm.MethodName) ({ cls := "LandBaseModel", name := "places", desc := "(I)I" } : Jvm.MethodName)) ∈ xW := xW_in (tb_in_8 (List.mem_of_getElem? (i := 15) (by decide +kernel))) rfl
theorem wd_1696 : (Jvm.Cond.code ({ cls := "LandBaseModel", name := "places", desc := "(I)I" } : Jvm.MethodName) prog_13_method_101_code (3 : Nat) (Option.some Jvm.ClassFile.FieldType.int)) ∈ xW := xW_in (tb_in_8 (List.mem_of_getElem? (i := 16) rfl)) rfl
theorem wd_1697 : (Jvm.Cond.methodLink "LandBaseLaw" (79 : Nat) ({ cls := "LandBaseModel", name := "rings", desc := "(I)I" } : Jvm.MethodName)) ∈ xW := xW_in (tb_in_8 (List.mem_of_getElem? (i := 17) (by decide +kernel))) rfl
theorem wd_1698 : (Jvm.Cond.instanceMethod ({ cls := "LandBaseModel", name := "rings", desc := "(I)I" } : Jvm.MethodName)) ∈ xW := xW_in (tb_in_8 (List.mem_of_getElem? (i := 18) (by decide +kernel))) rfl
theorem wd_1699 : (Jvm.Cond.selects "LandBaseModel" ({ cls := "LandBaseModel", name := "rings", desc := "(I)I" } : Jvm.MethodName) ({ cls := "LandBaseModel", name := "rings", desc := "(I)I" } : Jvm.MethodName)) ∈ xW := xW_in (tb_in_8 (List.mem_of_getElem? (i := 19) (by decide +kernel))) rfl
theorem wd_1700 : (Jvm.Cond.code ({ cls := "LandBaseModel", name := "rings", desc := "(I)I" } : Jvm.MethodName) prog_13_method_102_code (3 : Nat) (Option.some Jvm.ClassFile.FieldType.int)) ∈ xW := xW_in (tb_in_8 (List.mem_of_getElem? (i := 20) rfl)) rfl
theorem wd_1701 : (Jvm.Cond.methodLink "LandBaseLaw" (84 : Nat) ({ cls := "LandBaseModel", name := "at", desc := "(III)I" } : Jvm.MethodName)) ∈ xW := xW_in (tb_in_8 (List.mem_of_getElem? (i := 21) (by decide +kernel))) rfl
theorem wd_1702 : (Jvm.Cond.instanceMethod ({ cls := "LandBaseModel", name := "at", desc := "(III)I" } : Jvm.MethodName)) ∈ xW := xW_in (tb_in_8 (List.mem_of_getElem? (i := 22) (by decide +kernel))) rfl
theorem wd_1703 : (Jvm.Cond.selects "LandBaseModel" ({ cls := "LandBaseModel", name := "at", desc := "(III)I" } : Jvm.MethodName) ({ cls := "LandBaseModel", name := "at", desc := "(III)I" } : Jvm.MethodName)) ∈ xW := xW_in (tb_in_8 (List.mem_of_getElem? (i := 23) (by decide +kernel))) rfl
theorem wd_1704 : (Jvm.Cond.code ({ cls := "LandBaseModel", name := "at", desc := "(III)I" } : Jvm.MethodName) prog_13_method_103_code (5 : Nat) (Option.some Jvm.ClassFile.FieldType.int)) ∈ xW := xW_in (tb_in_8 (List.mem_of_getElem? (i := 24) rfl)) rfl
theorem wd_1705 : (Jvm.Cond.methodLink "LandBaseLaw" (88 : Nat) ({ cls := "LandBaseModel", name := "relate", desc := "(III)I" } : Jvm.MethodName)) ∈ xW := xW_in (tb_in_8 (List.mem_of_getElem? (i := 25) (by decide +kernel))) rfl
theorem wd_1706 : (Jvm.Cond.instanceMethod ({ cls := "LandBaseModel", name := "relate", desc := "(III)I" } : Jvm.MethodName)) ∈ xW := xW_in (tb_in_8 (List.mem_of_getElem? (i := 26) (by decide +kernel))) rfl
theorem wd_1707 : (Jvm.Cond.selects "LandBaseModel" ({ cls := "LandBaseModel", name := "relate", desc := "(III)I" } : Jvm.MethodName) ({ cls := "LandBaseModel", name := "relate", desc := "(III)I" } : Jvm.MethodName)) ∈ xW := xW_in (tb_in_8 (List.mem_of_getElem? (i := 27) (by decide +kernel))) rfl
theorem wd_1708 : (Jvm.Cond.code ({ cls := "LandBaseModel", name := "relate", desc := "(III)I" } : Jvm.MethodName) prog_13_method_104_code (6 : Nat) (Option.some Jvm.ClassFile.FieldType.int)) ∈ xW := xW_in (tb_in_8 (List.mem_of_getElem? (i := 28) rfl)) rfl
theorem wd_1709 : (Jvm.Cond.methodLink "LandBaseLaw" (93 : Nat) ({ cls := "LandBaseModel", name := "nearer", desc := "(IIII)I" } : Jvm.MethodName)) ∈ xW := xW_in (tb_in_8 (List.mem_of_getElem? (i := 29) (by decide +kernel))) rfl
theorem wd_1710 : (Jvm.Cond.instanceMethod ({ cls := "LandBaseModel", name := "nearer", desc := "(IIII)I" } : Jvm.MethodName)) ∈ xW := xW_in (tb_in_8 (List.mem_of_getElem? (i := 30) (by decide +kernel))) rfl
theorem wd_1711 : (Jvm.Cond.selects "LandBaseModel" ({ cls := "LandBaseModel", name := "nearer", desc := "(IIII)I" } : Jvm.MethodName) ({ cls := "LandBaseModel", name := "nearer", desc := "(IIII)I" } : Jvm.MethodName)) ∈ xW := xW_in (tb_in_8 (List.mem_of_getElem? (i := 31) (by decide +kernel))) rfl
theorem wd_1712 : (Jvm.Cond.code ({ cls := "LandBaseModel", name := "nearer", desc := "(IIII)I" } : Jvm.MethodName) prog_13_method_105_code (7 : Nat) (Option.some Jvm.ClassFile.FieldType.int)) ∈ xW := xW_in (tb_in_8 (List.mem_of_getElem? (i := 32) rfl)) rfl
theorem wd_1713 : (Jvm.Cond.methodLink "LandBaseLaw" (97 : Nat) ({ cls := "LandBaseModel", name := "used", desc := "()I" } : Jvm.MethodName)) ∈ xW := xW_in (tb_in_8 (List.mem_of_getElem? (i := 33) (by decide +kernel))) rfl
theorem wd_1714 : (Jvm.Cond.instanceMethod ({ cls := "LandBaseModel", name := "used", desc := "()I" } : Jvm.MethodName)) ∈ xW := xW_in (tb_in_8 (List.mem_of_getElem? (i := 34) (by decide +kernel))) rfl
theorem wd_1715 : (Jvm.Cond.selects "LandBaseModel" ({ cls := "LandBaseModel", name := "used", desc := "()I" } : Jvm.MethodName) ({ cls := "LandBaseModel", name := "used", desc := "()I" } : Jvm.MethodName)) ∈ xW := xW_in (tb_in_8 (List.mem_of_getElem? (i := 35) (by decide +kernel))) rfl
theorem wd_1716 : (Jvm.Cond.code ({ cls := "LandBaseModel", name := "used", desc := "()I" } : Jvm.MethodName) prog_13_method_106_code (1 : Nat) (Option.some Jvm.ClassFile.FieldType.int)) ∈ xW := xW_in (tb_in_8 (List.mem_of_getElem? (i := 36) rfl)) rfl
theorem wd_1717 : (Jvm.Cond.methodLink "LandBaseLaw" (101 : Nat) ({ cls := "LandBaseModel", name := "saves", desc := "()I" } : Jvm.MethodName)) ∈ xW := xW_in (tb_in_8 (List.mem_of_getElem? (i := 37) (by decide +kernel))) rfl
theorem wd_1718 : (Jvm.Cond.instanceMethod ({ cls := "LandBaseModel", name := "saves", desc := "()I" } : Jvm.MethodName)) ∈ xW := xW_in (tb_in_8 (List.mem_of_getElem? (i := 38) (by decide +kernel))) rfl
theorem wd_1719 : (Jvm.Cond.selects "LandBaseModel" ({ cls := "LandBaseModel", name := "saves", desc := "()I" } : Jvm.MethodName) ({ cls := "LandBaseModel", name := "saves", desc := "()I" } : Jvm.MethodName)) ∈ xW := xW_in (tb_in_8 (List.mem_of_getElem? (i := 39) (by decide +kernel))) rfl
theorem wd_1720 : (Jvm.Cond.code ({ cls := "LandBaseModel", name := "saves", desc := "()I" } : Jvm.MethodName) prog_13_method_107_code (1 : Nat) (Option.some Jvm.ClassFile.FieldType.int)) ∈ xW := xW_in (tb_in_8 (List.mem_of_getElem? (i := 40) rfl)) rfl
theorem wd_1721 : (Jvm.Cond.methodLink "LandBaseLaw" (105 : Nat) ({ cls := "LandBaseModel", name := "flaws", desc := "()I" } : Jvm.MethodName)) ∈ xW := xW_in (tb_in_8 (List.mem_of_getElem? (i := 41) (by decide +kernel))) rfl
theorem wd_1722 : (Jvm.Cond.instanceMethod ({ cls := "LandBaseModel", name := "flaws", desc := "()I" } : Jvm.MethodName)) ∈ xW := xW_in (tb_in_8 (List.mem_of_getElem? (i := 42) (by decide +kernel))) rfl
theorem wd_1723 : (Jvm.Cond.selects "LandBaseModel" ({ cls := "LandBaseModel", name := "flaws", desc := "()I" } : Jvm.MethodName) ({ cls := "LandBaseModel", name := "flaws", desc := "()I" } : Jvm.MethodName)) ∈ xW := xW_in (tb_in_8 (List.mem_of_getElem? (i := 43) (by decide +kernel))) rfl
theorem wd_1724 : (Jvm.Cond.code ({ cls := "LandBaseModel", name := "flaws", desc := "()I" } : Jvm.MethodName) prog_13_method_108_code (1 : Nat) (Option.some Jvm.ClassFile.FieldType.int)) ∈ xW := xW_in (tb_in_8 (List.mem_of_getElem? (i := 44) rfl)) rfl
theorem wd_1725 : (Jvm.Cond.constantLong "LandBaseLaw" (13 : Nat) (4294967295 : Int64)) ∈ xW := xW_in (tb_in_8 (List.mem_of_getElem? (i := 45) (by decide +kernel))) rfl
theorem ws_47 : Cond.selects "LandBase" ⟨"LandBase", "shapeOf", "(I)LLandBase$Shape;"⟩ ⟨"LandBase", "shapeOf", "(I)LLandBase$Shape;"⟩ ∈ xW := xW_in (List.mem_append_left _ (List.mem_of_getElem? (i := 47) (by decide +kernel))) rfl
theorem ws_48 : Cond.selects "LandBaseModel" ⟨"LandBaseModel", "lay", "(J)V"⟩ ⟨"LandBaseModel", "lay", "(J)V"⟩ ∈ xW := xW_in (List.mem_append_left _ (List.mem_of_getElem? (i := 48) (by decide +kernel))) rfl
theorem ws_49 : Cond.selects "LandBaseModel" ⟨"LandBaseModel", "next", "()V"⟩ ⟨"LandBaseModel", "next", "()V"⟩ ∈ xW := xW_in (List.mem_append_left _ (List.mem_of_getElem? (i := 49) (by decide +kernel))) rfl
theorem ws_50 : Cond.selects "LandBaseModel" ⟨"LandBaseModel", "byteAt", "(I)I"⟩ ⟨"LandBaseModel", "byteAt", "(I)I"⟩ ∈ xW := xW_in (List.mem_append_left _ (List.mem_of_getElem? (i := 50) (by decide +kernel))) rfl
theorem ws_106 : Cond.selects "LandBaseModel" ⟨"LandBaseModel", "standing", "(I)I"⟩ ⟨"LandBaseModel", "standing", "(I)I"⟩ ∈ xW := xW_in (List.mem_append_left _ (List.mem_of_getElem? (i := 106) (by decide +kernel))) rfl
end
section
theorem xin_0 : ∀ w ∈ u_ws RX0 TX0 2, w ∈ xW := by
  have h : (u_ws RX0 TX0 2).all (fun w => decide (w ∈ lw_tbl) && goodWord w) = true := by decide +kernel
  intro w hw
  have h1 := List.all_eq_true.mp h w hw
  simp only [Bool.and_eq_true, decide_eq_true_eq] at h1
  exact xW_in h1.1 h1.2
theorem xin_1 : ∀ w ∈ u_ws RX1 TX1 14, w ∈ xW := by
  have h : (u_ws RX1 TX1 14).all (fun w => decide (w ∈ lw_tbl) && goodWord w) = true := by decide +kernel
  intro w hw
  have h1 := List.all_eq_true.mp h w hw
  simp only [Bool.and_eq_true, decide_eq_true_eq] at h1
  exact xW_in h1.1 h1.2
theorem xin_2 : ∀ w ∈ u_ws RX2 TX2 3, w ∈ xW := by
  have h : (u_ws RX2 TX2 3).all (fun w => decide (w ∈ lw_tbl) && goodWord w) = true := by decide +kernel
  intro w hw
  have h1 := List.all_eq_true.mp h w hw
  simp only [Bool.and_eq_true, decide_eq_true_eq] at h1
  exact xW_in h1.1 h1.2
theorem xin_3 : ∀ w ∈ u_ws RX3 TX3 12, w ∈ xW := by
  have h : (u_ws RX3 TX3 12).all (fun w => decide (w ∈ lw_tbl) && goodWord w) = true := by decide +kernel
  intro w hw
  have h1 := List.all_eq_true.mp h w hw
  simp only [Bool.and_eq_true, decide_eq_true_eq] at h1
  exact xW_in h1.1 h1.2
theorem xin_4 : ∀ w ∈ u_ws RX5 TX5 6, w ∈ xW := by
  have h : (u_ws RX5 TX5 6).all (fun w => decide (w ∈ lw_tbl) && goodWord w) = true := by decide +kernel
  intro w hw
  have h1 := List.all_eq_true.mp h w hw
  simp only [Bool.and_eq_true, decide_eq_true_eq] at h1
  exact xW_in h1.1 h1.2
theorem xin_5 : ∀ w ∈ u_ws RX6 TX6 1, w ∈ xW := by
  have h : (u_ws RX6 TX6 1).all (fun w => decide (w ∈ lw_tbl) && goodWord w) = true := by decide +kernel
  intro w hw
  have h1 := List.all_eq_true.mp h w hw
  simp only [Bool.and_eq_true, decide_eq_true_eq] at h1
  exact xW_in h1.1 h1.2
theorem xin_6 : ∀ w ∈ u_ws RX7 TX7 13, w ∈ xW := by
  have h : (u_ws RX7 TX7 13).all (fun w => decide (w ∈ lw_tbl) && goodWord w) = true := by decide +kernel
  intro w hw
  have h1 := List.all_eq_true.mp h w hw
  simp only [Bool.and_eq_true, decide_eq_true_eq] at h1
  exact xW_in h1.1 h1.2
theorem xin_7 : ∀ w ∈ u_ws RX8 TX8 3, w ∈ xW := by
  have h : (u_ws RX8 TX8 3).all (fun w => decide (w ∈ lw_tbl) && goodWord w) = true := by decide +kernel
  intro w hw
  have h1 := List.all_eq_true.mp h w hw
  simp only [Bool.and_eq_true, decide_eq_true_eq] at h1
  exact xW_in h1.1 h1.2
theorem xin_8 : ∀ w ∈ u_ws RX9 TX9 6, w ∈ xW := by
  have h : (u_ws RX9 TX9 6).all (fun w => decide (w ∈ lw_tbl) && goodWord w) = true := by decide +kernel
  intro w hw
  have h1 := List.all_eq_true.mp h w hw
  simp only [Bool.and_eq_true, decide_eq_true_eq] at h1
  exact xW_in h1.1 h1.2
theorem xin_9 : ∀ w ∈ u_ws RX10 TX10 11, w ∈ xW := by
  have h : (u_ws RX10 TX10 11).all (fun w => decide (w ∈ lw_tbl) && goodWord w) = true := by decide +kernel
  intro w hw
  have h1 := List.all_eq_true.mp h w hw
  simp only [Bool.and_eq_true, decide_eq_true_eq] at h1
  exact xW_in h1.1 h1.2
theorem xin_10 : ∀ w ∈ u_ws RX11 TX11 2, w ∈ xW := by
  have h : (u_ws RX11 TX11 2).all (fun w => decide (w ∈ lw_tbl) && goodWord w) = true := by decide +kernel
  intro w hw
  have h1 := List.all_eq_true.mp h w hw
  simp only [Bool.and_eq_true, decide_eq_true_eq] at h1
  exact xW_in h1.1 h1.2
theorem xin_11 : ∀ w ∈ u_ws RX12 TX12 7, w ∈ xW := by
  have h : (u_ws RX12 TX12 7).all (fun w => decide (w ∈ lw_tbl) && goodWord w) = true := by decide +kernel
  intro w hw
  have h1 := List.all_eq_true.mp h w hw
  simp only [Bool.and_eq_true, decide_eq_true_eq] at h1
  exact xW_in h1.1 h1.2
theorem xin_12 : ∀ w ∈ u_ws RX13 TX13 2, w ∈ xW := by
  have h : (u_ws RX13 TX13 2).all (fun w => decide (w ∈ lw_tbl) && goodWord w) = true := by decide +kernel
  intro w hw
  have h1 := List.all_eq_true.mp h w hw
  simp only [Bool.and_eq_true, decide_eq_true_eq] at h1
  exact xW_in h1.1 h1.2
theorem xin_13 : ∀ w ∈ u_ws RX14 TX14 58, w ∈ xW := by
  have h : (u_ws RX14 TX14 58).all (fun w => decide (w ∈ lw_tbl) && goodWord w) = true := by decide +kernel
  intro w hw
  have h1 := List.all_eq_true.mp h w hw
  simp only [Bool.and_eq_true, decide_eq_true_eq] at h1
  exact xW_in h1.1 h1.2
theorem gf_LandBase_10 : xGf "LandBase" 10 9 0 := ⟨RX10, TX10, 11, rfl, by decide, xin_9, (Or.inl wd_340)⟩
theorem gf_LandBase_26 : xGf "LandBase" 26 9 2 := ⟨RX10, TX10, 11, rfl, by decide, xin_9, (Or.inl wd_342)⟩
theorem gf_LandBase_51 : xGf "LandBase" 51 9 5 := ⟨RX10, TX10, 11, rfl, by decide, xin_9, (Or.inl wd_345)⟩
theorem gf_LandBase_60 : xGf "LandBase" 60 9 7 := ⟨RX10, TX10, 11, rfl, by decide, xin_9, (Or.inl wd_347)⟩
theorem gf_LandBase_63 : xGf "LandBase" 63 9 8 := ⟨RX10, TX10, 11, rfl, by decide, xin_9, (Or.inl wd_348)⟩
theorem gf_LandBase_70 : xGf "LandBase" 70 9 10 := ⟨RX10, TX10, 11, rfl, by decide, xin_9, (Or.inl wd_350)⟩
theorem gf_LandBase_73 : xGf "LandBase" 73 8 1 := ⟨RX9, TX9, 6, rfl, by decide, xin_8, (Or.inr ⟨_, wd_38⟩)⟩
theorem gf_LandBase_80 : xGf "LandBase" 80 3 6 := ⟨RX3, TX3, 12, rfl, by decide, xin_3, (Or.inr ⟨_, wd_212⟩)⟩
theorem gf_LandBase_87 : xGf "LandBase" 87 8 2 := ⟨RX9, TX9, 6, rfl, by decide, xin_8, (Or.inr ⟨_, wd_40⟩)⟩
theorem gf_LandBase_145 : xGf "LandBase" 145 3 0 := ⟨RX3, TX3, 12, rfl, by decide, xin_3, (Or.inr ⟨_, wd_205⟩)⟩
theorem gf_LandBase_149 : xGf "LandBase" 149 7 2 := ⟨RX8, TX8, 3, rfl, by decide, xin_7, (Or.inr ⟨_, wd_194⟩)⟩
theorem gf_LandBase_154 : xGf "LandBase" 154 3 5 := ⟨RX3, TX3, 12, rfl, by decide, xin_3, (Or.inr ⟨_, wd_211⟩)⟩
theorem gf_LandBase_157 : xGf "LandBase" 157 7 0 := ⟨RX8, TX8, 3, rfl, by decide, xin_7, (Or.inr ⟨_, wd_190⟩)⟩
theorem gf_LandBase_164 : xGf "LandBase" 164 6 0 := ⟨RX7, TX7, 13, rfl, by decide, xin_6, (Or.inr ⟨_, wd_78⟩)⟩
theorem gf_LandBase_169 : xGf "LandBase" 169 6 1 := ⟨RX7, TX7, 13, rfl, by decide, xin_6, (Or.inr ⟨_, wd_86⟩)⟩
theorem gf_LandBase_170 : xGf "LandBase" 170 6 2 := ⟨RX7, TX7, 13, rfl, by decide, xin_6, (Or.inr ⟨_, wd_89⟩)⟩
theorem gf_LandBase_195 : xGf "LandBase" 195 3 8 := ⟨RX3, TX3, 12, rfl, by decide, xin_3, (Or.inr ⟨_, wd_216⟩)⟩
theorem gf_LandBase_198 : xGf "LandBase" 198 3 9 := ⟨RX3, TX3, 12, rfl, by decide, xin_3, (Or.inr ⟨_, wd_218⟩)⟩
theorem gf_LandBase_Keeper_12 : xGf "LandBase$Keeper" 12 3 0 := ⟨RX3, TX3, 12, rfl, by decide, xin_3, (Or.inl wd_204)⟩
theorem gf_LandBase_Keeper_18 : xGf "LandBase$Keeper" 18 3 1 := ⟨RX3, TX3, 12, rfl, by decide, xin_3, (Or.inl wd_206)⟩
theorem gf_LandBase_Keeper_41 : xGf "LandBase$Keeper" 41 3 5 := ⟨RX3, TX3, 12, rfl, by decide, xin_3, (Or.inl wd_210)⟩
theorem gf_LandBase_Keeper_45 : xGf "LandBase$Keeper" 45 3 7 := ⟨RX3, TX3, 12, rfl, by decide, xin_3, (Or.inl wd_214)⟩
theorem gf_LandBase_Keeper_69 : xGf "LandBase$Keeper" 69 3 8 := ⟨RX3, TX3, 12, rfl, by decide, xin_3, (Or.inl wd_215)⟩
theorem gf_LandBase_Keeper_75 : xGf "LandBase$Keeper" 75 3 6 := ⟨RX3, TX3, 12, rfl, by decide, xin_3, (Or.inl wd_213)⟩
theorem gf_LandBase_Keeper_84 : xGf "LandBase$Keeper" 84 7 2 := ⟨RX8, TX8, 3, rfl, by decide, xin_7, (Or.inr ⟨_, wd_195⟩)⟩
theorem gf_LandBase_Table_9 : xGf "LandBase$Table" 9 7 0 := ⟨RX8, TX8, 3, rfl, by decide, xin_7, (Or.inl wd_189)⟩
theorem gf_LandBase_Table_17 : xGf "LandBase$Table" 17 7 1 := ⟨RX8, TX8, 3, rfl, by decide, xin_7, (Or.inl wd_191)⟩
theorem gf_LandBase_Table_21 : xGf "LandBase$Table" 21 7 2 := ⟨RX8, TX8, 3, rfl, by decide, xin_7, (Or.inl wd_193)⟩
theorem gf_LandBase_Tape_9 : xGf "LandBase$Tape" 9 8 0 := ⟨RX9, TX9, 6, rfl, by decide, xin_8, (Or.inl wd_36)⟩
theorem gf_LandBase_Tape_15 : xGf "LandBase$Tape" 15 8 1 := ⟨RX9, TX9, 6, rfl, by decide, xin_8, (Or.inl wd_37)⟩
theorem gf_LandBase_Tape_19 : xGf "LandBase$Tape" 19 8 4 := ⟨RX9, TX9, 6, rfl, by decide, xin_8, (Or.inl wd_44)⟩
theorem gf_LandBaseModel_318 : xGf "LandBaseModel" 318 13 33 := ⟨RX14, TX14, 58, rfl, by decide, xin_13, (Or.inl wd_1089)⟩
theorem gf_LandBaseModel_321 : xGf "LandBaseModel" 321 13 32 := ⟨RX14, TX14, 58, rfl, by decide, xin_13, (Or.inl wd_1088)⟩
theorem gf_LandBaseModel_332 : xGf "LandBaseModel" 332 13 35 := ⟨RX14, TX14, 58, rfl, by decide, xin_13, (Or.inl wd_1091)⟩
theorem gf_LandBaseModel_335 : xGf "LandBaseModel" 335 13 36 := ⟨RX14, TX14, 58, rfl, by decide, xin_13, (Or.inl wd_1092)⟩
theorem gf_LandBaseModel_347 : xGf "LandBaseModel" 347 13 31 := ⟨RX14, TX14, 58, rfl, by decide, xin_13, (Or.inl wd_1087)⟩
theorem gf_LandBaseModel_351 : xGf "LandBaseModel" 351 13 30 := ⟨RX14, TX14, 58, rfl, by decide, xin_13, (Or.inl wd_1086)⟩
theorem gf_LandBaseModel_359 : xGf "LandBaseModel" 359 13 43 := ⟨RX14, TX14, 58, rfl, by decide, xin_13, (Or.inl wd_1099)⟩
theorem gf_LandBaseModel_362 : xGf "LandBaseModel" 362 13 44 := ⟨RX14, TX14, 58, rfl, by decide, xin_13, (Or.inl wd_1100)⟩
theorem gf_LandBaseModel_370 : xGf "LandBaseModel" 370 13 42 := ⟨RX14, TX14, 58, rfl, by decide, xin_13, (Or.inl wd_1098)⟩
theorem gf_LandBaseModel_373 : xGf "LandBaseModel" 373 13 40 := ⟨RX14, TX14, 58, rfl, by decide, xin_13, (Or.inl wd_1096)⟩
theorem gf_LandBaseModel_376 : xGf "LandBaseModel" 376 13 39 := ⟨RX14, TX14, 58, rfl, by decide, xin_13, (Or.inl wd_1095)⟩
theorem gf_LandBaseModel_379 : xGf "LandBaseModel" 379 13 41 := ⟨RX14, TX14, 58, rfl, by decide, xin_13, (Or.inl wd_1097)⟩
theorem gf_LandBaseModel_385 : xGf "LandBaseModel" 385 13 45 := ⟨RX14, TX14, 58, rfl, by decide, xin_13, (Or.inl wd_1101)⟩
theorem gf_LandBaseModel_477 : xGf "LandBaseModel" 477 13 54 := ⟨RX14, TX14, 58, rfl, by decide, xin_13, (Or.inl wd_1110)⟩
theorem gf_LandBaseModel_581 : xGf "LandBaseModel" 581 12 1 := ⟨RX13, TX13, 2, rfl, by decide, xin_12, (Or.inl wd_1049)⟩
theorem gf_LandBaseModel_State_11 : xGf "LandBaseModel$State" 11 12 0 := ⟨RX13, TX13, 2, rfl, by decide, xin_12, (Or.inl wd_1046)⟩
theorem gf_LandBaseModel_State_18 : xGf "LandBaseModel$State" 18 12 1 := ⟨RX13, TX13, 2, rfl, by decide, xin_12, (Or.inl wd_1048)⟩
theorem pf_LandBase_10 : xPf "LandBase" 10 9 0 (.object "LandBase$Tape") true := ⟨RX10, TX10, 11, tyX10, rfl, by decide, xin_9, tyX10_ok, nmX10, rfl, by decide +kernel, (fun _ => ⟨rfl, wd_340⟩), (Or.inl wd_340)⟩
theorem pf_LandBase_19 : xPf "LandBase" 19 9 1 (.object "LandBase$Reader") true := ⟨RX10, TX10, 11, tyX10, rfl, by decide, xin_9, tyX10_ok, nmX10, rfl, by decide +kernel, (fun _ => ⟨rfl, wd_341⟩), (Or.inl wd_341)⟩
theorem pf_LandBase_26 : xPf "LandBase" 26 9 2 (.object "LandBase$Keeper") true := ⟨RX10, TX10, 11, tyX10, rfl, by decide, xin_9, tyX10_ok, nmX10, rfl, by decide +kernel, (fun _ => ⟨rfl, wd_342⟩), (Or.inl wd_342)⟩
theorem pf_LandBase_38 : xPf "LandBase" 38 9 3 (.object "LandBase$Checker") true := ⟨RX10, TX10, 11, tyX10, rfl, by decide, xin_9, tyX10_ok, nmX10, rfl, by decide +kernel, (fun _ => ⟨rfl, wd_343⟩), (Or.inl wd_343)⟩
theorem pf_LandBase_45 : xPf "LandBase" 45 9 4 (.object "LandBase$Relations") true := ⟨RX10, TX10, 11, tyX10, rfl, by decide, xin_9, tyX10_ok, nmX10, rfl, by decide +kernel, (fun _ => ⟨rfl, wd_344⟩), (Or.inl wd_344)⟩
theorem pf_LandBase_51 : xPf "LandBase" 51 9 5 (.array (.object "LandBase$Distance")) true := ⟨RX10, TX10, 11, tyX10, rfl, by decide, xin_9, tyX10_ok, nmX10, rfl, by decide +kernel, (fun _ => ⟨rfl, wd_345⟩), (Or.inl wd_345)⟩
theorem pf_LandBase_56 : xPf "LandBase" 56 9 6 (.array .int) true := ⟨RX10, TX10, 11, tyX10, rfl, by decide, xin_9, tyX10_ok, nmX10, rfl, by decide +kernel, (fun _ => ⟨rfl, wd_346⟩), (Or.inl wd_346)⟩
theorem pf_LandBase_60 : xPf "LandBase" 60 9 7 (.array .int) true := ⟨RX10, TX10, 11, tyX10, rfl, by decide, xin_9, tyX10_ok, nmX10, rfl, by decide +kernel, (fun _ => ⟨rfl, wd_347⟩), (Or.inl wd_347)⟩
theorem pf_LandBase_63 : xPf "LandBase" 63 9 8 .int false := ⟨RX10, TX10, 11, tyX10, rfl, by decide, xin_9, tyX10_ok, nmX10, rfl, by decide +kernel, (fun h => by cases h), (Or.inl wd_348)⟩
theorem pf_LandBase_67 : xPf "LandBase" 67 9 9 .int false := ⟨RX10, TX10, 11, tyX10, rfl, by decide, xin_9, tyX10_ok, nmX10, rfl, by decide +kernel, (fun h => by cases h), (Or.inl wd_349)⟩
theorem pf_LandBase_70 : xPf "LandBase" 70 9 10 .int false := ⟨RX10, TX10, 11, tyX10, rfl, by decide, xin_9, tyX10_ok, nmX10, rfl, by decide +kernel, (fun h => by cases h), (Or.inl wd_350)⟩
theorem pf_LandBase_73 : xPf "LandBase" 73 8 1 .int false := ⟨RX9, TX9, 6, tyX9, rfl, by decide, xin_8, tyX9_ok, nmX9, rfl, by decide +kernel, (fun h => by cases h), (Or.inr ⟨_, wd_38⟩)⟩
theorem pf_LandBase_136 : xPf "LandBase" 136 3 10 .int false := ⟨RX3, TX3, 12, tyX3, rfl, by decide, xin_3, tyX3_ok, nmX3, rfl, by decide +kernel, (fun h => by cases h), (Or.inr ⟨_, wd_220⟩)⟩
theorem pf_LandBase_139 : xPf "LandBase" 139 3 11 .int false := ⟨RX3, TX3, 12, tyX3, rfl, by decide, xin_3, tyX3_ok, nmX3, rfl, by decide +kernel, (fun h => by cases h), (Or.inr ⟨_, wd_221⟩)⟩
theorem pf_LandBase_Checker_9 : xPf "LandBase$Checker" 9 0 0 (.object "LandBase$Cutter") true := ⟨RX0, TX0, 2, tyX0, rfl, by decide, xin_0, tyX0_ok, nmX0, rfl, by decide +kernel, (fun _ => ⟨rfl, wd_306⟩), (Or.inl wd_306)⟩
theorem pf_LandBase_Checker_15 : xPf "LandBase$Checker" 15 0 1 (.array .int) true := ⟨RX0, TX0, 2, tyX0, rfl, by decide, xin_0, tyX0_ok, nmX0, rfl, by decide +kernel, (fun _ => ⟨rfl, wd_307⟩), (Or.inl wd_307)⟩
theorem pf_LandBase_Cutter_12 : xPf "LandBase$Cutter" 12 1 0 (.object "LandBase$Shape") false := ⟨RX1, TX1, 14, tyX1, rfl, by decide, xin_1, tyX1_ok, nmX1, rfl, by decide +kernel, (fun h => by cases h), (Or.inl wd_256)⟩
theorem pf_LandBase_Cutter_18 : xPf "LandBase$Cutter" 18 1 7 (.array .long) true := ⟨RX1, TX1, 14, tyX1, rfl, by decide, xin_1, tyX1_ok, nmX1, rfl, by decide +kernel, (fun _ => ⟨rfl, wd_263⟩), (Or.inl wd_263)⟩
theorem pf_LandBase_Cutter_22 : xPf "LandBase$Cutter" 22 1 8 (.array .long) true := ⟨RX1, TX1, 14, tyX1, rfl, by decide, xin_1, tyX1_ok, nmX1, rfl, by decide +kernel, (fun _ => ⟨rfl, wd_264⟩), (Or.inl wd_264)⟩
theorem pf_LandBase_Cutter_25 : xPf "LandBase$Cutter" 25 1 9 (.array .int) true := ⟨RX1, TX1, 14, tyX1, rfl, by decide, xin_1, tyX1_ok, nmX1, rfl, by decide +kernel, (fun _ => ⟨rfl, wd_265⟩), (Or.inl wd_265)⟩
theorem pf_LandBase_Distance_9 : xPf "LandBase$Distance" 9 2 2 .long false := ⟨RX2, TX2, 3, tyX2, rfl, by decide, xin_2, tyX2_ok, nmX2, rfl, by decide +kernel, (fun h => by cases h), (Or.inl wd_332)⟩
theorem pf_LandBase_Keeper_12 : xPf "LandBase$Keeper" 12 3 0 (.object "LandBase$Table") true := ⟨RX3, TX3, 12, tyX3, rfl, by decide, xin_3, tyX3_ok, nmX3, rfl, by decide +kernel, (fun _ => ⟨rfl, wd_204⟩), (Or.inl wd_204)⟩
theorem pf_LandBase_Keeper_18 : xPf "LandBase$Keeper" 18 3 1 (.object "LandBase$Table") true := ⟨RX3, TX3, 12, tyX3, rfl, by decide, xin_3, tyX3_ok, nmX3, rfl, by decide +kernel, (fun _ => ⟨rfl, wd_206⟩), (Or.inl wd_206)⟩
theorem pf_LandBase_Keeper_23 : xPf "LandBase$Keeper" 23 3 2 (.array (.object "LandBase$Shape")) true := ⟨RX3, TX3, 12, tyX3, rfl, by decide, xin_3, tyX3_ok, nmX3, rfl, by decide +kernel, (fun _ => ⟨rfl, wd_207⟩), (Or.inl wd_207)⟩
theorem pf_LandBase_Keeper_27 : xPf "LandBase$Keeper" 27 3 10 .int false := ⟨RX3, TX3, 12, tyX3, rfl, by decide, xin_3, tyX3_ok, nmX3, rfl, by decide +kernel, (fun h => by cases h), (Or.inl wd_219)⟩
theorem pf_LandBase_Keeper_41 : xPf "LandBase$Keeper" 41 3 5 .boolean false := ⟨RX3, TX3, 12, tyX3, rfl, by decide, xin_3, tyX3_ok, nmX3, rfl, by decide +kernel, (fun h => by cases h), (Or.inl wd_210)⟩
theorem pf_LandBase_Keeper_75 : xPf "LandBase$Keeper" 75 3 6 .boolean false := ⟨RX3, TX3, 12, tyX3, rfl, by decide, xin_3, tyX3_ok, nmX3, rfl, by decide +kernel, (fun h => by cases h), (Or.inl wd_213)⟩
theorem pf_LandBase_Reader_11 : xPf "LandBase$Reader" 11 4 0 (.array .int) true := ⟨RX5, TX5, 6, tyX5, rfl, by decide, xin_4, tyX5_ok, nmX5, rfl, by decide +kernel, (fun _ => ⟨rfl, wd_151⟩), (Or.inl wd_151)⟩
theorem pf_LandBase_Reader_18 : xPf "LandBase$Reader" 18 4 1 (.object "LandBase$Shape") true := ⟨RX5, TX5, 6, tyX5, rfl, by decide, xin_4, tyX5_ok, nmX5, rfl, by decide +kernel, (fun _ => ⟨rfl, wd_153⟩), (Or.inl wd_153)⟩
theorem pf_LandBase_Relations_9 : xPf "LandBase$Relations" 9 5 0 (.object "LandBase$Cutter") true := ⟨RX6, TX6, 1, tyX6, rfl, by decide, xin_5, tyX6_ok, nmX6, rfl, by decide +kernel, (fun _ => ⟨rfl, wd_319⟩), (Or.inl wd_319)⟩
theorem pf_LandBase_Shape_9 : xPf "LandBase$Shape" 9 6 9 (.array .int) true := ⟨RX7, TX7, 13, tyX7, rfl, by decide, xin_6, tyX7_ok, nmX7, rfl, by decide +kernel, (fun _ => ⟨rfl, wd_102⟩), (Or.inl wd_102)⟩
theorem pf_LandBase_Shape_15 : xPf "LandBase$Shape" 15 6 10 (.array .int) true := ⟨RX7, TX7, 13, tyX7, rfl, by decide, xin_6, tyX7_ok, nmX7, rfl, by decide +kernel, (fun _ => ⟨rfl, wd_109⟩), (Or.inl wd_109)⟩
theorem pf_LandBase_Shape_18 : xPf "LandBase$Shape" 18 6 11 (.array .int) true := ⟨RX7, TX7, 13, tyX7, rfl, by decide, xin_6, tyX7_ok, nmX7, rfl, by decide +kernel, (fun _ => ⟨rfl, wd_116⟩), (Or.inl wd_116)⟩
theorem pf_LandBase_Shape_21 : xPf "LandBase$Shape" 21 6 12 (.array .boolean) true := ⟨RX7, TX7, 13, tyX7, rfl, by decide, xin_6, tyX7_ok, nmX7, rfl, by decide +kernel, (fun _ => ⟨rfl, wd_118⟩), (Or.inl wd_118)⟩
theorem pf_LandBase_Table_9 : xPf "LandBase$Table" 9 7 0 (.array .int) true := ⟨RX8, TX8, 3, tyX8, rfl, by decide, xin_7, tyX8_ok, nmX8, rfl, by decide +kernel, (fun _ => ⟨rfl, wd_189⟩), (Or.inl wd_189)⟩
theorem pf_LandBase_Table_17 : xPf "LandBase$Table" 17 7 1 (.array (.object "LandBase$Shape")) true := ⟨RX8, TX8, 3, tyX8, rfl, by decide, xin_7, tyX8_ok, nmX8, rfl, by decide +kernel, (fun _ => ⟨rfl, wd_191⟩), (Or.inl wd_191)⟩
theorem pf_LandBase_Table_21 : xPf "LandBase$Table" 21 7 2 .int false := ⟨RX8, TX8, 3, tyX8, rfl, by decide, xin_7, tyX8_ok, nmX8, rfl, by decide +kernel, (fun h => by cases h), (Or.inl wd_193)⟩
theorem pf_LandBase_Tape_9 : xPf "LandBase$Tape" 9 8 0 (.array .byte) true := ⟨RX9, TX9, 6, tyX9, rfl, by decide, xin_8, tyX9_ok, nmX9, rfl, by decide +kernel, (fun _ => ⟨rfl, wd_36⟩), (Or.inl wd_36)⟩
theorem pf_LandBase_Tape_15 : xPf "LandBase$Tape" 15 8 1 .int false := ⟨RX9, TX9, 6, tyX9, rfl, by decide, xin_8, tyX9_ok, nmX9, rfl, by decide +kernel, (fun h => by cases h), (Or.inl wd_37)⟩
theorem pf_LandBase_Tape_19 : xPf "LandBase$Tape" 19 8 4 .int false := ⟨RX9, TX9, 6, tyX9, rfl, by decide, xin_8, tyX9_ok, nmX9, rfl, by decide +kernel, (fun h => by cases h), (Or.inl wd_44)⟩
theorem pf_LandBase_Tape_25 : xPf "LandBase$Tape" 25 8 3 .int false := ⟨RX9, TX9, 6, tyX9, rfl, by decide, xin_8, tyX9_ok, nmX9, rfl, by decide +kernel, (fun h => by cases h), (Or.inl wd_43)⟩
theorem pf_LandBase_Tape_28 : xPf "LandBase$Tape" 28 8 2 .int false := ⟨RX9, TX9, 6, tyX9, rfl, by decide, xin_8, tyX9_ok, nmX9, rfl, by decide +kernel, (fun h => by cases h), (Or.inl wd_41)⟩
theorem pf_LandBaseModel_5 : xPf "LandBaseModel" 5 13 0 (.array .long) true := ⟨RX14, TX14, 58, tyX14, rfl, by decide, xin_13, tyX14_ok, nmX14, rfl, by decide +kernel, (fun _ => ⟨rfl, wd_1056⟩), (Or.inl wd_1056)⟩
theorem pf_LandBaseModel_13 : xPf "LandBaseModel" 13 13 1 (.array .long) true := ⟨RX14, TX14, 58, tyX14, rfl, by decide, xin_13, tyX14_ok, nmX14, rfl, by decide +kernel, (fun _ => ⟨rfl, wd_1057⟩), (Or.inl wd_1057)⟩
theorem pf_LandBaseModel_16 : xPf "LandBaseModel" 16 13 2 (.array .long) true := ⟨RX14, TX14, 58, tyX14, rfl, by decide, xin_13, tyX14_ok, nmX14, rfl, by decide +kernel, (fun _ => ⟨rfl, wd_1058⟩), (Or.inl wd_1058)⟩
theorem pf_LandBaseModel_23 : xPf "LandBaseModel" 23 13 3 (.array .long) true := ⟨RX14, TX14, 58, tyX14, rfl, by decide, xin_13, tyX14_ok, nmX14, rfl, by decide +kernel, (fun _ => ⟨rfl, wd_1059⟩), (Or.inl wd_1059)⟩
theorem pf_LandBaseModel_111 : xPf "LandBaseModel" 111 13 14 (.array .long) true := ⟨RX14, TX14, 58, tyX14, rfl, by decide, xin_13, tyX14_ok, nmX14, rfl, by decide +kernel, (fun _ => ⟨rfl, wd_1070⟩), (Or.inl wd_1070)⟩
theorem pf_LandBaseModel_117 : xPf "LandBaseModel" 117 13 15 (.array .long) true := ⟨RX14, TX14, 58, tyX14, rfl, by decide, xin_13, tyX14_ok, nmX14, rfl, by decide +kernel, (fun _ => ⟨rfl, wd_1071⟩), (Or.inl wd_1071)⟩
theorem pf_LandBaseModel_156 : xPf "LandBaseModel" 156 13 23 (.array .boolean) true := ⟨RX14, TX14, 58, tyX14, rfl, by decide, xin_13, tyX14_ok, nmX14, rfl, by decide +kernel, (fun _ => ⟨rfl, wd_1079⟩), (Or.inl wd_1079)⟩
theorem pf_LandBaseModel_254 : xPf "LandBaseModel" 254 13 24 (.object "LandBaseModel$Shape") true := ⟨RX14, TX14, 58, tyX14, rfl, by decide, xin_13, tyX14_ok, nmX14, rfl, by decide +kernel, (fun _ => ⟨rfl, wd_1080⟩), (Or.inl wd_1080)⟩
theorem pf_LandBaseModel_262 : xPf "LandBaseModel" 262 13 25 (.object "LandBaseModel$Shape") true := ⟨RX14, TX14, 58, tyX14, rfl, by decide, xin_13, tyX14_ok, nmX14, rfl, by decide +kernel, (fun _ => ⟨rfl, wd_1081⟩), (Or.inl wd_1081)⟩
theorem pf_LandBaseModel_265 : xPf "LandBaseModel" 265 13 26 (.array .int) true := ⟨RX14, TX14, 58, tyX14, rfl, by decide, xin_13, tyX14_ok, nmX14, rfl, by decide +kernel, (fun _ => ⟨rfl, wd_1082⟩), (Or.inl wd_1082)⟩
theorem pf_LandBaseModel_296 : xPf "LandBaseModel" 296 13 27 (.object "LandBaseModel$Distance") true := ⟨RX14, TX14, 58, tyX14, rfl, by decide, xin_13, tyX14_ok, nmX14, rfl, by decide +kernel, (fun _ => ⟨rfl, wd_1083⟩), (Or.inl wd_1083)⟩
theorem pf_LandBaseModel_318 : xPf "LandBaseModel" 318 13 33 .boolean false := ⟨RX14, TX14, 58, tyX14, rfl, by decide, xin_13, tyX14_ok, nmX14, rfl, by decide +kernel, (fun h => by cases h), (Or.inl wd_1089)⟩
theorem pf_LandBaseModel_321 : xPf "LandBaseModel" 321 13 32 .boolean false := ⟨RX14, TX14, 58, tyX14, rfl, by decide, xin_13, tyX14_ok, nmX14, rfl, by decide +kernel, (fun h => by cases h), (Or.inl wd_1088)⟩
theorem pf_LandBaseModel_323 : xPf "LandBaseModel" 323 13 37 .int false := ⟨RX14, TX14, 58, tyX14, rfl, by decide, xin_13, tyX14_ok, nmX14, rfl, by decide +kernel, (fun h => by cases h), (Or.inl wd_1093)⟩
theorem pf_LandBaseModel_326 : xPf "LandBaseModel" 326 13 38 .int false := ⟨RX14, TX14, 58, tyX14, rfl, by decide, xin_13, tyX14_ok, nmX14, rfl, by decide +kernel, (fun h => by cases h), (Or.inl wd_1094)⟩
theorem pf_LandBaseModel_338 : xPf "LandBaseModel" 338 13 34 .int false := ⟨RX14, TX14, 58, tyX14, rfl, by decide, xin_13, tyX14_ok, nmX14, rfl, by decide +kernel, (fun h => by cases h), (Or.inl wd_1090)⟩
theorem pf_LandBaseModel_347 : xPf "LandBaseModel" 347 13 31 (.object "LandBaseModel$State") true := ⟨RX14, TX14, 58, tyX14, rfl, by decide, xin_13, tyX14_ok, nmX14, rfl, by decide +kernel, (fun _ => ⟨rfl, wd_1087⟩), (Or.inl wd_1087)⟩
theorem pf_LandBaseModel_351 : xPf "LandBaseModel" 351 13 30 (.object "LandBaseModel$State") true := ⟨RX14, TX14, 58, tyX14, rfl, by decide, xin_13, tyX14_ok, nmX14, rfl, by decide +kernel, (fun _ => ⟨rfl, wd_1086⟩), (Or.inl wd_1086)⟩
theorem pf_LandBaseModel_359 : xPf "LandBaseModel" 359 13 43 (.array .int) true := ⟨RX14, TX14, 58, tyX14, rfl, by decide, xin_13, tyX14_ok, nmX14, rfl, by decide +kernel, (fun _ => ⟨rfl, wd_1099⟩), (Or.inl wd_1099)⟩
theorem pf_LandBaseModel_362 : xPf "LandBaseModel" 362 13 44 .int false := ⟨RX14, TX14, 58, tyX14, rfl, by decide, xin_13, tyX14_ok, nmX14, rfl, by decide +kernel, (fun h => by cases h), (Or.inl wd_1100)⟩
theorem pf_LandBaseModel_365 : xPf "LandBaseModel" 365 13 48 .boolean false := ⟨RX14, TX14, 58, tyX14, rfl, by decide, xin_13, tyX14_ok, nmX14, rfl, by decide +kernel, (fun h => by cases h), (Or.inl wd_1104)⟩
theorem pf_LandBaseModel_368 : xPf "LandBaseModel" 368 13 46 .int false := ⟨RX14, TX14, 58, tyX14, rfl, by decide, xin_13, tyX14_ok, nmX14, rfl, by decide +kernel, (fun h => by cases h), (Or.inl wd_1102)⟩
theorem pf_LandBaseModel_370 : xPf "LandBaseModel" 370 13 42 .int false := ⟨RX14, TX14, 58, tyX14, rfl, by decide, xin_13, tyX14_ok, nmX14, rfl, by decide +kernel, (fun h => by cases h), (Or.inl wd_1098)⟩
theorem pf_LandBaseModel_373 : xPf "LandBaseModel" 373 13 40 .int false := ⟨RX14, TX14, 58, tyX14, rfl, by decide, xin_13, tyX14_ok, nmX14, rfl, by decide +kernel, (fun h => by cases h), (Or.inl wd_1096)⟩
theorem pf_LandBaseModel_376 : xPf "LandBaseModel" 376 13 39 (.array .int) true := ⟨RX14, TX14, 58, tyX14, rfl, by decide, xin_13, tyX14_ok, nmX14, rfl, by decide +kernel, (fun _ => ⟨rfl, wd_1095⟩), (Or.inl wd_1095)⟩
theorem pf_LandBaseModel_379 : xPf "LandBaseModel" 379 13 41 .int false := ⟨RX14, TX14, 58, tyX14, rfl, by decide, xin_13, tyX14_ok, nmX14, rfl, by decide +kernel, (fun h => by cases h), (Or.inl wd_1097)⟩
theorem pf_LandBaseModel_385 : xPf "LandBaseModel" 385 13 45 .int false := ⟨RX14, TX14, 58, tyX14, rfl, by decide, xin_13, tyX14_ok, nmX14, rfl, by decide +kernel, (fun h => by cases h), (Or.inl wd_1101)⟩
theorem pf_LandBaseModel_432 : xPf "LandBaseModel" 432 13 49 (.object "LandBaseModel$Shape") true := ⟨RX14, TX14, 58, tyX14, rfl, by decide, xin_13, tyX14_ok, nmX14, rfl, by decide +kernel, (fun _ => ⟨rfl, wd_1105⟩), (Or.inl wd_1105)⟩
theorem pf_LandBaseModel_464 : xPf "LandBaseModel" 464 13 28 (.object "LandBaseModel$Distance") true := ⟨RX14, TX14, 58, tyX14, rfl, by decide, xin_13, tyX14_ok, nmX14, rfl, by decide +kernel, (fun _ => ⟨rfl, wd_1084⟩), (Or.inl wd_1084)⟩
theorem pf_LandBaseModel_467 : xPf "LandBaseModel" 467 13 29 (.object "LandBaseModel$Distance") true := ⟨RX14, TX14, 58, tyX14, rfl, by decide, xin_13, tyX14_ok, nmX14, rfl, by decide +kernel, (fun _ => ⟨rfl, wd_1085⟩), (Or.inl wd_1085)⟩
theorem pf_LandBaseModel_471 : xPf "LandBaseModel" 471 13 52 (.array .int) true := ⟨RX14, TX14, 58, tyX14, rfl, by decide, xin_13, tyX14_ok, nmX14, rfl, by decide +kernel, (fun _ => ⟨rfl, wd_1108⟩), (Or.inl wd_1108)⟩
theorem pf_LandBaseModel_474 : xPf "LandBaseModel" 474 13 53 (.object "LandBaseModel$Shape") true := ⟨RX14, TX14, 58, tyX14, rfl, by decide, xin_13, tyX14_ok, nmX14, rfl, by decide +kernel, (fun _ => ⟨rfl, wd_1109⟩), (Or.inl wd_1109)⟩
theorem pf_LandBaseModel_477 : xPf "LandBaseModel" 477 13 54 (.array (.object "LandBaseModel$Distance")) true := ⟨RX14, TX14, 58, tyX14, rfl, by decide, xin_13, tyX14_ok, nmX14, rfl, by decide +kernel, (fun _ => ⟨rfl, wd_1110⟩), (Or.inl wd_1110)⟩
theorem pf_LandBaseModel_481 : xPf "LandBaseModel" 481 13 55 (.array .int) true := ⟨RX14, TX14, 58, tyX14, rfl, by decide, xin_13, tyX14_ok, nmX14, rfl, by decide +kernel, (fun _ => ⟨rfl, wd_1111⟩), (Or.inl wd_1111)⟩
theorem pf_LandBaseModel_Distance_9 : xPf "LandBaseModel$Distance" 9 10 0 (.array .long) true := ⟨RX11, TX11, 2, tyX11, rfl, by decide, xin_10, tyX11_ok, nmX11, rfl, by decide +kernel, (fun _ => ⟨rfl, wd_1028⟩), (Or.inl wd_1028)⟩
theorem pf_LandBaseModel_Distance_15 : xPf "LandBaseModel$Distance" 15 10 1 (.array .long) true := ⟨RX11, TX11, 2, tyX11, rfl, by decide, xin_10, tyX11_ok, nmX11, rfl, by decide +kernel, (fun _ => ⟨rfl, wd_1030⟩), (Or.inl wd_1030)⟩
theorem pf_LandBaseModel_Shape_9 : xPf "LandBaseModel$Shape" 9 11 4 (.array .int) true := ⟨RX12, TX12, 7, tyX12, rfl, by decide, xin_11, tyX12_ok, nmX12, rfl, by decide +kernel, (fun _ => ⟨rfl, wd_1001⟩), (Or.inl wd_1001)⟩
theorem pf_LandBaseModel_Shape_15 : xPf "LandBaseModel$Shape" 15 11 5 (.array .int) true := ⟨RX12, TX12, 7, tyX12, rfl, by decide, xin_11, tyX12_ok, nmX12, rfl, by decide +kernel, (fun _ => ⟨rfl, wd_1003⟩), (Or.inl wd_1003)⟩
theorem pf_LandBaseModel_Shape_18 : xPf "LandBaseModel$Shape" 18 11 6 (.array .int) true := ⟨RX12, TX12, 7, tyX12, rfl, by decide, xin_11, tyX12_ok, nmX12, rfl, by decide +kernel, (fun _ => ⟨rfl, wd_1005⟩), (Or.inl wd_1005)⟩
theorem pf_LandBaseModel_State_11 : xPf "LandBaseModel$State" 11 12 0 (.array (.object "LandBaseModel$Shape")) true := ⟨RX13, TX13, 2, tyX13, rfl, by decide, xin_12, tyX13_ok, nmX13, rfl, by decide +kernel, (fun _ => ⟨rfl, wd_1046⟩), (Or.inl wd_1046)⟩
theorem pf_LandBaseModel_State_18 : xPf "LandBaseModel$State" 18 12 1 .int false := ⟨RX13, TX13, 2, tyX13, rfl, by decide, xin_12, tyX13_ok, nmX13, rfl, by decide +kernel, (fun h => by cases h), (Or.inl wd_1048)⟩
theorem nw_LandBase_7 : xNw "LandBase" 7 8 6 [.null, .int 0, .int 0, .int 0, .int 0, .int 0] := ⟨RX9, TX9, tyX9, rfl, xin_8, tyX9_ok, wd_30, wd_31, wd_2, by decide +kernel⟩
theorem nw_LandBase_16 : xNw "LandBase" 16 4 6 [.null, .null, .int 0, .int 0, .int 0, .int 0] := ⟨RX5, TX5, tyX5, rfl, xin_4, tyX5_ok, wd_61, wd_62, wd_3, by decide +kernel⟩
theorem nw_LandBase_23 : xNw "LandBase" 23 3 12 [.null, .null, .null, .int 0, .int 0, .int 0, .int 0, .int 0, .int 0, .int 0, .int 0, .int 0] := ⟨RX3, TX3, tyX3, rfl, xin_3, tyX3_ok, wd_175, wd_176, wd_5, by decide +kernel⟩
theorem nw_LandBase_30 : xNw "LandBase" 30 1 14 [.null, .int 0, .int 0, .int 0, .int 0, .int 0, .int 0, .null, .null, .null, .int 0, .int 0, .int 0, .int 0] := ⟨RX1, TX1, tyX1, rfl, xin_1, tyX1_ok, wd_248, wd_249, wd_7, by decide +kernel⟩
theorem nw_LandBase_33 : xNw "LandBase" 33 0 2 [.null, .null] := ⟨RX0, TX0, tyX0, rfl, xin_0, tyX0_ok, wd_300, wd_301, wd_8, by decide +kernel⟩
theorem nw_LandBase_42 : xNw "LandBase" 42 5 1 [.null] := ⟨RX6, TX6, tyX6, rfl, xin_5, tyX6_ok, wd_313, wd_314, wd_9, by decide +kernel⟩
theorem nw_LandBase_49 : xNw "LandBase" 49 2 3 [.long 0, .long 0, .long 0] := ⟨RX2, TX2, tyX2, rfl, xin_2, tyX2_ok, wd_323, wd_325, wd_10, by decide +kernel⟩
theorem nw_LandBase_Cutter_9 : xNw "LandBase$Cutter" 9 6 13 [.int 0, .int 0, .int 0, .int 0, .int 0, .int 0, .int 0, .int 0, .int 0, .null, .null, .null, .null] := ⟨RX7, TX7, tyX7, rfl, xin_6, tyX7_ok, wd_254, wd_68, wd_4, by decide +kernel⟩
theorem nw_LandBase_Keeper_9 : xNw "LandBase$Keeper" 9 7 3 [.null, .null, .int 0] := ⟨RX8, TX8, tyX8, rfl, xin_7, tyX8_ok, wd_181, wd_182, wd_6, by decide +kernel⟩
theorem nw_LandBase_Reader_15 : xNw "LandBase$Reader" 15 6 13 [.int 0, .int 0, .int 0, .int 0, .int 0, .int 0, .int 0, .int 0, .int 0, .null, .null, .null, .null] := ⟨RX7, TX7, tyX7, rfl, xin_6, tyX7_ok, wd_67, wd_68, wd_4, by decide +kernel⟩
theorem nw_LandBaseLaw_7 : xNw "LandBaseLaw" 7 9 11 [.null, .null, .null, .null, .null, .null, .null, .null, .int 0, .int 0, .int 0] := ⟨RX10, TX10, tyX10, rfl, xin_9, tyX10_ok, wd_22, wd_23, wd_1, by decide +kernel⟩
theorem nw_LandBaseLaw_10 : xNw "LandBaseLaw" 10 13 58 [.null, .null, .null, .null, .int 0, .int 0, .int 0, .int 0, .int 0, .int 0, .long 0, .long 0, .long 0, .int 0, .null, .null, .int 0, .int 0, .int 0, .int 0, .long 0, .long 0, .int 0, .null, .null, .null, .null, .null, .null, .null, .null, .null, .int 0, .int 0, .int 0, .int 0, .int 0, .int 0, .int 0, .null, .int 0, .int 0, .int 0, .null, .int 0, .int 0, .int 0, .int 0, .int 0, .null, .int 0, .int 0, .null, .null, .null, .null, .int 0, .int 0] := ⟨RX14, TX14, tyX14, rfl, xin_13, tyX14_ok, wd_980, wd_981, wd_11, by decide +kernel⟩
theorem nw_LandBaseModel_31 : xNw "LandBaseModel" 31 11 7 [.int 0, .int 0, .int 0, .int 0, .null, .null, .null] := ⟨RX12, TX12, tyX12, rfl, xin_11, tyX12_ok, wd_986, wd_987, wd_12, by decide +kernel⟩
theorem nw_LandBaseModel_289 : xNw "LandBaseModel" 289 10 2 [.null, .null] := ⟨RX11, TX11, tyX11, rfl, xin_10, tyX11_ok, wd_1022, wd_1023, wd_13, by decide +kernel⟩
theorem nw_LandBaseModel_355 : xNw "LandBaseModel" 355 12 2 [.null, .int 0] := ⟨RX13, TX13, tyX13, rfl, xin_12, tyX13_ok, wd_1037, wd_1038, wd_14, by decide +kernel⟩
theorem nw_LandBaseModel_State_9 : xNw "LandBaseModel$State" 9 11 7 [.int 0, .int 0, .int 0, .int 0, .null, .null, .null] := ⟨RX12, TX12, tyX12, rfl, xin_11, tyX12_ok, wd_1043, wd_987, wd_12, by decide +kernel⟩
end
section
theorem cf_X1_init_11 : xCi mX1_init 11 mX7_init 0 := ⟨wd_255, wd_70, ⟨rfl, rfl⟩, ⟨wd_4, wd_71, by decide +kernel, by decide, by decide⟩⟩
theorem cf_X3_init_11 : xCi mX3_init 11 mX8_init 0 := ⟨wd_183, wd_184, ⟨rfl, rfl⟩, ⟨wd_6, wd_185, by decide +kernel, by decide, by decide⟩⟩
theorem cf_X3_restore_65 : xCv mX3_restore 65 mX8_copyFrom 1 := ⟨wd_692, wd_693, wd_694, ⟨wd_6, wd_695, by decide +kernel, by decide, by decide⟩⟩
theorem cf_X3_countFlaws_81 : xCv mX3_countFlaws 81 mX8_countBadRows 0 := ⟨wd_976, wd_977, wd_978, ⟨wd_6, wd_979, by decide +kernel, by decide, by decide⟩⟩
theorem cf_X5_init_17 : xCi mX5_init 17 mX7_init 0 := ⟨wd_69, wd_70, ⟨rfl, rfl⟩, ⟨wd_4, wd_71, by decide +kernel, by decide, by decide⟩⟩
theorem cf_X8_shapeWith_25 : xCv mX8_shapeWith 25 mX8_indexOf 1 := ⟨wd_938, wd_532, wd_533, ⟨wd_6, wd_534, by decide +kernel, by decide, by decide⟩⟩
theorem cf_X9_rewind_22 : xCv mX9_rewind 22 mX9_advance 0 := ⟨wd_394, wd_395, wd_396, ⟨wd_2, wd_397, by decide +kernel, by decide, by decide⟩⟩
theorem cf_X10_init_9 : xCi mX10_init 9 mX9_init 0 := ⟨wd_32, wd_33, ⟨rfl, rfl⟩, ⟨wd_2, wd_34, by decide +kernel, by decide, by decide⟩⟩
theorem cf_X10_init_18 : xCi mX10_init 18 mX5_init 0 := ⟨wd_63, wd_64, ⟨rfl, rfl⟩, ⟨wd_3, wd_65, by decide +kernel, by decide, by decide⟩⟩
theorem cf_X10_init_25 : xCi mX10_init 25 mX3_init 0 := ⟨wd_177, wd_178, ⟨rfl, rfl⟩, ⟨wd_5, wd_179, by decide +kernel, by decide, by decide⟩⟩
theorem cf_X10_init_32 : xCi mX10_init 32 mX1_init 0 := ⟨wd_250, wd_251, ⟨rfl, rfl⟩, ⟨wd_7, wd_252, by decide +kernel, by decide, by decide⟩⟩
theorem cf_X10_init_35 : xCi mX10_init 35 mX0_init 1 := ⟨wd_302, wd_303, ⟨rfl, rfl⟩, ⟨wd_8, wd_304, by decide +kernel, by decide, by decide⟩⟩
theorem cf_X10_init_44 : xCi mX10_init 44 mX6_init 1 := ⟨wd_315, wd_316, ⟨rfl, rfl⟩, ⟨wd_9, wd_317, by decide +kernel, by decide, by decide⟩⟩
theorem cf_X10_init_55 : xCi mX10_init 55 mX2_init 0 := ⟨wd_326, wd_327, ⟨rfl, rfl⟩, ⟨wd_10, wd_328, by decide +kernel, by decide, by decide⟩⟩
theorem cf_X10_feed_76 : xCv mX10_feed 76 mX9_append 1 := ⟨wd_378, wd_379, wd_380, ⟨wd_2, wd_381, by decide +kernel, by decide, by decide⟩⟩
theorem cf_X10_run_84 : xCv mX10_run 84 mX9_rewind 0 := ⟨wd_390, wd_391, wd_392, ⟨wd_2, wd_393, by decide +kernel, by decide, by decide⟩⟩
theorem cf_X10_run_133 : xCv mX10_run 133 mX9_clear 0 := ⟨wd_882, wd_883, wd_884, ⟨wd_2, wd_885, by decide +kernel, by decide, by decide⟩⟩
theorem cf_X10_recover_142 : xCv mX10_recover 142 mX3_restore 0 := ⟨wd_906, wd_907, wd_908, ⟨wd_5, wd_909, by decide +kernel, by decide, by decide⟩⟩
theorem cf_X10_kindOf_160 : xCv mX10_kindOf 160 mX10_shapeOf 1 := ⟨wd_930, wd_932, ws_47, ⟨wd_1, wd_933, by decide +kernel, by decide, by decide⟩⟩
theorem cf_X10_places_160 : xCv mX10_places 160 mX10_shapeOf 1 := ⟨wd_930, wd_932, ws_47, ⟨wd_1, wd_933, by decide +kernel, by decide, by decide⟩⟩
theorem cf_X10_rings_160 : xCv mX10_rings 160 mX10_shapeOf 1 := ⟨wd_930, wd_932, ws_47, ⟨wd_1, wd_933, by decide +kernel, by decide, by decide⟩⟩
theorem cf_X10_at_160 : xCv mX10_at 160 mX10_shapeOf 1 := ⟨wd_930, wd_932, ws_47, ⟨wd_1, wd_933, by decide +kernel, by decide, by decide⟩⟩
theorem cf_X10_relate_160 : xCv mX10_relate 160 mX10_shapeOf 1 := ⟨wd_930, wd_932, ws_47, ⟨wd_1, wd_933, by decide +kernel, by decide, by decide⟩⟩
theorem cf_X10_nearer_160 : xCv mX10_nearer 160 mX10_shapeOf 1 := ⟨wd_930, wd_932, ws_47, ⟨wd_1, wd_933, by decide +kernel, by decide, by decide⟩⟩
theorem cf_X10_flaws_201 : xCv mX10_flaws 201 mX3_countFlaws 0 := ⟨wd_972, wd_973, wd_974, ⟨wd_5, wd_975, by decide +kernel, by decide, by decide⟩⟩
theorem cf_X10_shapeOf_208 : xCv mX10_shapeOf 208 mX8_shapeWith 1 := ⟨wd_934, wd_935, wd_936, ⟨wd_6, wd_937, by decide +kernel, by decide, by decide⟩⟩
theorem cf_X13_init_17 : xCiN mX13_init 17 mX12_init 0 := ⟨⟨_, wd_1045⟩, wd_989, ⟨rfl, rfl⟩, ⟨wd_12, wd_990, by decide +kernel, by decide, by decide⟩⟩
theorem cf_X14_next_382 : xCv mX14_next 382 mX14_byteAt 1 := ⟨wd_1252, wd_1254, ws_50, ⟨wd_11, wd_1255, by decide +kernel, by decide, by decide⟩⟩
theorem cf_X14_init_462 : xCiN mX14_init 462 mX12_init 0 := ⟨⟨_, wd_988⟩, wd_989, ⟨rfl, rfl⟩, ⟨wd_12, wd_990, by decide +kernel, by decide, by decide⟩⟩
theorem cf_X14_init_463 : xCiN mX14_init 463 mX11_init 0 := ⟨⟨_, wd_1024⟩, wd_1025, ⟨rfl, rfl⟩, ⟨wd_13, wd_1026, by decide +kernel, by decide, by decide⟩⟩
theorem cf_X14_init_470 : xCi mX14_init 470 mX13_init 0 := ⟨wd_1039, wd_1040, ⟨rfl, rfl⟩, ⟨wd_14, wd_1041, by decide +kernel, by decide, by decide⟩⟩
theorem cf_X14_feed_644 : xCv mX14_feed 644 mX14_lay 1 := ⟨wd_1235, wd_1237, ws_48, ⟨wd_11, wd_1238, by decide +kernel, by decide, by decide⟩⟩
theorem cf_X14_run_423 : xCv mX14_run 423 mX14_next 0 := ⟨wd_1248, wd_1250, ws_49, ⟨wd_11, wd_1251, by decide +kernel, by decide, by decide⟩⟩
theorem cf_X14_recover_354 : xCv mX14_recover 354 mX13_take 1 := ⟨wd_1495, wd_1496, wd_1497, ⟨wd_14, wd_1498, by decide +kernel, by decide, by decide⟩⟩
theorem cf_X14_standing_573 : xCv mX14_standing 573 mX13_find 1 := ⟨wd_1335, wd_1336, wd_1337, ⟨wd_14, wd_1338, by decide +kernel, by decide, by decide⟩⟩
theorem cf_X14_kindOf_650 : xCv mX14_kindOf 650 mX14_standing 1 := ⟨wd_1689, wd_1691, ws_106, ⟨wd_11, wd_1692, by decide +kernel, by decide, by decide⟩⟩
theorem cf_X14_places_650 : xCv mX14_places 650 mX14_standing 1 := ⟨wd_1689, wd_1691, ws_106, ⟨wd_11, wd_1692, by decide +kernel, by decide, by decide⟩⟩
theorem cf_X14_rings_650 : xCv mX14_rings 650 mX14_standing 1 := ⟨wd_1689, wd_1691, ws_106, ⟨wd_11, wd_1692, by decide +kernel, by decide, by decide⟩⟩
theorem cf_X14_at_650 : xCv mX14_at 650 mX14_standing 1 := ⟨wd_1689, wd_1691, ws_106, ⟨wd_11, wd_1692, by decide +kernel, by decide, by decide⟩⟩
theorem cf_X14_relate_650 : xCv mX14_relate 650 mX14_standing 1 := ⟨wd_1689, wd_1691, ws_106, ⟨wd_11, wd_1692, by decide +kernel, by decide, by decide⟩⟩
theorem cf_X14_nearer_650 : xCv mX14_nearer 650 mX14_standing 1 := ⟨wd_1689, wd_1691, ws_106, ⟨wd_11, wd_1692, by decide +kernel, by decide, by decide⟩⟩
theorem cf_L_law_9 : xCi mL_law 9 mX10_init 0 := ⟨wd_24, wd_25, ⟨rfl, rfl⟩, ⟨wd_1, wd_26, by decide +kernel, by decide, by decide⟩⟩
theorem cf_L_law_12 : xCi mL_law 12 mX14_init 0 := ⟨wd_982, wd_983, ⟨rfl, rfl⟩, ⟨wd_11, wd_984, by decide +kernel, by decide, by decide⟩⟩
theorem cf_L_law_15 : xCv mL_law 15 mX10_feed 5 := ⟨wd_374, wd_375, wd_376, ⟨wd_1, wd_377, by decide +kernel, by decide, by decide⟩⟩
theorem cf_L_law_19 : xCv mL_law 19 mX14_feed 5 := ⟨wd_1231, wd_1232, wd_1233, ⟨wd_11, wd_1234, by decide +kernel, by decide, by decide⟩⟩
theorem cf_L_law_20 : xCv mL_law 20 mX10_end 1 := ⟨wd_382, wd_383, wd_384, ⟨wd_1, wd_385, by decide +kernel, by decide, by decide⟩⟩
theorem cf_L_law_24 : xCv mL_law 24 mX14_end 1 := ⟨wd_1240, wd_1241, wd_1242, ⟨wd_11, wd_1243, by decide +kernel, by decide, by decide⟩⟩
theorem cf_L_law_25 : xCv mL_law 25 mX10_run 0 := ⟨wd_386, wd_387, wd_388, ⟨wd_1, wd_389, by decide +kernel, by decide, by decide⟩⟩
theorem cf_L_law_29 : xCv mL_law 29 mX14_run 0 := ⟨wd_1244, wd_1245, wd_1246, ⟨wd_11, wd_1247, by decide +kernel, by decide, by decide⟩⟩
theorem cf_L_law_30 : xCv mL_law 30 mX10_wrong 0 := ⟨wd_886, wd_887, wd_888, ⟨wd_1, wd_889, by decide +kernel, by decide, by decide⟩⟩
theorem cf_L_law_33 : xCv mL_law 33 mX14_wrong 0 := ⟨wd_1649, wd_1650, wd_1651, ⟨wd_11, wd_1652, by decide +kernel, by decide, by decide⟩⟩
theorem cf_L_law_34 : xCv mL_law 34 mX10_outputs 0 := ⟨wd_890, wd_891, wd_892, ⟨wd_1, wd_893, by decide +kernel, by decide, by decide⟩⟩
theorem cf_L_law_37 : xCv mL_law 37 mX14_outputs 0 := ⟨wd_1653, wd_1654, wd_1655, ⟨wd_11, wd_1656, by decide +kernel, by decide, by decide⟩⟩
theorem cf_L_law_38 : xCv mL_law 38 mX10_out 1 := ⟨wd_894, wd_895, wd_896, ⟨wd_1, wd_897, by decide +kernel, by decide, by decide⟩⟩
theorem cf_L_law_41 : xCv mL_law 41 mX14_out 1 := ⟨wd_1657, wd_1658, wd_1659, ⟨wd_11, wd_1660, by decide +kernel, by decide, by decide⟩⟩
theorem cf_L_law_42 : xCv mL_law 42 mX10_crash 3 := ⟨wd_898, wd_899, wd_900, ⟨wd_1, wd_901, by decide +kernel, by decide, by decide⟩⟩
theorem cf_L_law_46 : xCv mL_law 46 mX14_crash 3 := ⟨wd_1661, wd_1662, wd_1663, ⟨wd_11, wd_1664, by decide +kernel, by decide, by decide⟩⟩
theorem cf_L_law_47 : xCv mL_law 47 mX10_recover 0 := ⟨wd_902, wd_903, wd_904, ⟨wd_1, wd_905, by decide +kernel, by decide, by decide⟩⟩
theorem cf_L_law_50 : xCv mL_law 50 mX14_recover 0 := ⟨wd_1665, wd_1666, wd_1667, ⟨wd_11, wd_1668, by decide +kernel, by decide, by decide⟩⟩
theorem cf_L_law_51 : xCv mL_law 51 mX10_isDown 0 := ⟨wd_910, wd_911, wd_912, ⟨wd_1, wd_913, by decide +kernel, by decide, by decide⟩⟩
theorem cf_L_law_55 : xCv mL_law 55 mX14_isDown 0 := ⟨wd_1669, wd_1670, wd_1671, ⟨wd_11, wd_1672, by decide +kernel, by decide, by decide⟩⟩
theorem cf_L_law_56 : xCv mL_law 56 mX10_isOpen 0 := ⟨wd_914, wd_915, wd_916, ⟨wd_1, wd_917, by decide +kernel, by decide, by decide⟩⟩
theorem cf_L_law_59 : xCv mL_law 59 mX14_isOpen 0 := ⟨wd_1673, wd_1674, wd_1675, ⟨wd_11, wd_1676, by decide +kernel, by decide, by decide⟩⟩
theorem cf_L_law_60 : xCv mL_law 60 mX10_live 0 := ⟨wd_918, wd_919, wd_920, ⟨wd_1, wd_921, by decide +kernel, by decide, by decide⟩⟩
theorem cf_L_law_63 : xCv mL_law 63 mX14_live 0 := ⟨wd_1677, wd_1678, wd_1679, ⟨wd_11, wd_1680, by decide +kernel, by decide, by decide⟩⟩
theorem cf_L_law_64 : xCv mL_law 64 mX10_idAt 1 := ⟨wd_922, wd_923, wd_924, ⟨wd_1, wd_925, by decide +kernel, by decide, by decide⟩⟩
theorem cf_L_law_67 : xCv mL_law 67 mX14_idAt 1 := ⟨wd_1681, wd_1682, wd_1683, ⟨wd_11, wd_1684, by decide +kernel, by decide, by decide⟩⟩
theorem cf_L_law_68 : xCv mL_law 68 mX10_kindOf 1 := ⟨wd_926, wd_927, wd_928, ⟨wd_1, wd_929, by decide +kernel, by decide, by decide⟩⟩
theorem cf_L_law_71 : xCv mL_law 71 mX14_kindOf 1 := ⟨wd_1685, wd_1686, wd_1687, ⟨wd_11, wd_1688, by decide +kernel, by decide, by decide⟩⟩
theorem cf_L_law_72 : xCv mL_law 72 mX10_places 1 := ⟨wd_939, wd_940, wd_941, ⟨wd_1, wd_942, by decide +kernel, by decide, by decide⟩⟩
theorem cf_L_law_75 : xCv mL_law 75 mX14_places 1 := ⟨wd_1693, wd_1694, wd_1695, ⟨wd_11, wd_1696, by decide +kernel, by decide, by decide⟩⟩
theorem cf_L_law_76 : xCv mL_law 76 mX10_rings 1 := ⟨wd_943, wd_944, wd_945, ⟨wd_1, wd_946, by decide +kernel, by decide, by decide⟩⟩
theorem cf_L_law_79 : xCv mL_law 79 mX14_rings 1 := ⟨wd_1697, wd_1698, wd_1699, ⟨wd_11, wd_1700, by decide +kernel, by decide, by decide⟩⟩
theorem cf_L_law_80 : xCv mL_law 80 mX10_at 3 := ⟨wd_947, wd_948, wd_949, ⟨wd_1, wd_950, by decide +kernel, by decide, by decide⟩⟩
theorem cf_L_law_84 : xCv mL_law 84 mX14_at 3 := ⟨wd_1701, wd_1702, wd_1703, ⟨wd_11, wd_1704, by decide +kernel, by decide, by decide⟩⟩
theorem cf_L_law_85 : xCv mL_law 85 mX10_relate 3 := ⟨wd_951, wd_952, wd_953, ⟨wd_1, wd_954, by decide +kernel, by decide, by decide⟩⟩
theorem cf_L_law_88 : xCv mL_law 88 mX14_relate 3 := ⟨wd_1705, wd_1706, wd_1707, ⟨wd_11, wd_1708, by decide +kernel, by decide, by decide⟩⟩
theorem cf_L_law_89 : xCv mL_law 89 mX10_nearer 4 := ⟨wd_955, wd_956, wd_957, ⟨wd_1, wd_958, by decide +kernel, by decide, by decide⟩⟩
theorem cf_L_law_93 : xCv mL_law 93 mX14_nearer 4 := ⟨wd_1709, wd_1710, wd_1711, ⟨wd_11, wd_1712, by decide +kernel, by decide, by decide⟩⟩
theorem cf_L_law_94 : xCv mL_law 94 mX10_used 0 := ⟨wd_960, wd_961, wd_962, ⟨wd_1, wd_963, by decide +kernel, by decide, by decide⟩⟩
theorem cf_L_law_97 : xCv mL_law 97 mX14_used 0 := ⟨wd_1713, wd_1714, wd_1715, ⟨wd_11, wd_1716, by decide +kernel, by decide, by decide⟩⟩
theorem cf_L_law_98 : xCv mL_law 98 mX10_saves 0 := ⟨wd_964, wd_965, wd_966, ⟨wd_1, wd_967, by decide +kernel, by decide, by decide⟩⟩
theorem cf_L_law_101 : xCv mL_law 101 mX14_saves 0 := ⟨wd_1717, wd_1718, wd_1719, ⟨wd_11, wd_1720, by decide +kernel, by decide, by decide⟩⟩
theorem cf_L_law_102 : xCv mL_law 102 mX10_flaws 0 := ⟨wd_968, wd_969, wd_970, ⟨wd_1, wd_971, by decide +kernel, by decide, by decide⟩⟩
theorem cf_L_law_105 : xCv mL_law 105 mX14_flaws 0 := ⟨wd_1721, wd_1722, wd_1723, ⟨wd_11, wd_1724, by decide +kernel, by decide, by decide⟩⟩
end
section
theorem dX0_init_0 : decode prog_2_method_1_code 0 = .ok (.aload_n 0, 1) := by decide +kernel
theorem dX0_init_1 : decode prog_2_method_1_code 1 = .ok (.invokespecial 3, 3) := by decide +kernel
theorem dX0_init_4 : decode prog_2_method_1_code 4 = .ok (.aload_n 0, 1) := by decide +kernel
theorem dX0_init_5 : decode prog_2_method_1_code 5 = .ok (.aload_n 1, 1) := by decide +kernel
theorem dX0_init_6 : decode prog_2_method_1_code 6 = .ok (.putfield 9, 3) := by decide +kernel
theorem dX0_init_9 : decode prog_2_method_1_code 9 = .ok (.aload_n 0, 1) := by decide +kernel
theorem dX0_init_10 : decode prog_2_method_1_code 10 = .ok (.bipush 8, 2) := by decide +kernel
theorem dX0_init_12 : decode prog_2_method_1_code 12 = .ok (.newarray .int, 2) := by decide +kernel
theorem dX0_init_14 : decode prog_2_method_1_code 14 = .ok (.putfield 15, 3) := by decide +kernel
theorem dX0_init_17 : decode prog_2_method_1_code 17 = .ok (.return_, 1) := by decide +kernel
theorem dX1_init_0 : decode prog_3_method_1_code 0 = .ok (.aload_n 0, 1) := by decide +kernel
theorem dX1_init_1 : decode prog_3_method_1_code 1 = .ok (.invokespecial 3, 3) := by decide +kernel
theorem dX1_init_4 : decode prog_3_method_1_code 4 = .ok (.aload_n 0, 1) := by decide +kernel
theorem dX1_init_5 : decode prog_3_method_1_code 5 = .ok (.new 9, 3) := by decide +kernel
theorem dX1_init_8 : decode prog_3_method_1_code 8 = .ok (.dup, 1) := by decide +kernel
theorem dX1_init_9 : decode prog_3_method_1_code 9 = .ok (.invokespecial 11, 3) := by decide +kernel
theorem dX1_init_12 : decode prog_3_method_1_code 12 = .ok (.putfield 12, 3) := by decide +kernel
theorem dX1_init_15 : decode prog_3_method_1_code 15 = .ok (.aload_n 0, 1) := by decide +kernel
theorem dX1_init_16 : decode prog_3_method_1_code 16 = .ok (.bipush 80, 2) := by decide +kernel
theorem dX1_init_18 : decode prog_3_method_1_code 18 = .ok (.newarray .long, 2) := by decide +kernel
theorem dX1_init_20 : decode prog_3_method_1_code 20 = .ok (.putfield 18, 3) := by decide +kernel
theorem dX1_init_23 : decode prog_3_method_1_code 23 = .ok (.aload_n 0, 1) := by decide +kernel
theorem dX1_init_24 : decode prog_3_method_1_code 24 = .ok (.bipush 80, 2) := by decide +kernel
theorem dX1_init_26 : decode prog_3_method_1_code 26 = .ok (.newarray .long, 2) := by decide +kernel
theorem dX1_init_28 : decode prog_3_method_1_code 28 = .ok (.putfield 22, 3) := by decide +kernel
theorem dX1_init_31 : decode prog_3_method_1_code 31 = .ok (.aload_n 0, 1) := by decide +kernel
theorem dX1_init_32 : decode prog_3_method_1_code 32 = .ok (.bipush 80, 2) := by decide +kernel
theorem dX1_init_34 : decode prog_3_method_1_code 34 = .ok (.newarray .int, 2) := by decide +kernel
theorem dX1_init_36 : decode prog_3_method_1_code 36 = .ok (.putfield 25, 3) := by decide +kernel
theorem dX1_init_39 : decode prog_3_method_1_code 39 = .ok (.return_, 1) := by decide +kernel
end
section
theorem dX2_init_0 : decode prog_4_method_1_code 0 = .ok (.aload_n 0, 1) := by decide +kernel
theorem dX2_init_1 : decode prog_4_method_1_code 1 = .ok (.invokespecial 3, 3) := by decide +kernel
theorem dX2_init_4 : decode prog_4_method_1_code 4 = .ok (.aload_n 0, 1) := by decide +kernel
theorem dX2_init_5 : decode prog_4_method_1_code 5 = .ok (.lconst 1, 1) := by decide +kernel
theorem dX2_init_6 : decode prog_4_method_1_code 6 = .ok (.putfield 9, 3) := by decide +kernel
theorem dX2_init_9 : decode prog_4_method_1_code 9 = .ok (.return_, 1) := by decide +kernel
theorem dX3_init_0 : decode prog_5_method_1_code 0 = .ok (.aload_n 0, 1) := by decide +kernel
theorem dX3_init_1 : decode prog_5_method_1_code 1 = .ok (.invokespecial 3, 3) := by decide +kernel
theorem dX3_init_4 : decode prog_5_method_1_code 4 = .ok (.aload_n 0, 1) := by decide +kernel
theorem dX3_init_5 : decode prog_5_method_1_code 5 = .ok (.new 9, 3) := by decide +kernel
theorem dX3_init_8 : decode prog_5_method_1_code 8 = .ok (.dup, 1) := by decide +kernel
theorem dX3_init_9 : decode prog_5_method_1_code 9 = .ok (.invokespecial 11, 3) := by decide +kernel
theorem dX3_init_12 : decode prog_5_method_1_code 12 = .ok (.putfield 12, 3) := by decide +kernel
theorem dX3_init_15 : decode prog_5_method_1_code 15 = .ok (.aload_n 0, 1) := by decide +kernel
theorem dX3_init_16 : decode prog_5_method_1_code 16 = .ok (.new 9, 3) := by decide +kernel
theorem dX3_init_19 : decode prog_5_method_1_code 19 = .ok (.dup, 1) := by decide +kernel
theorem dX3_init_20 : decode prog_5_method_1_code 20 = .ok (.invokespecial 11, 3) := by decide +kernel
theorem dX3_init_23 : decode prog_5_method_1_code 23 = .ok (.putfield 18, 3) := by decide +kernel
theorem dX3_init_26 : decode prog_5_method_1_code 26 = .ok (.aload_n 0, 1) := by decide +kernel
theorem dX3_init_27 : decode prog_5_method_1_code 27 = .ok (.sipush 401, 3) := by decide +kernel
theorem dX3_init_30 : decode prog_5_method_1_code 30 = .ok (.anewarray 21, 3) := by decide +kernel
theorem dX3_init_33 : decode prog_5_method_1_code 33 = .ok (.putfield 23, 3) := by decide +kernel
theorem dX3_init_36 : decode prog_5_method_1_code 36 = .ok (.aload_n 0, 1) := by decide +kernel
theorem dX3_init_37 : decode prog_5_method_1_code 37 = .ok (.iconst (-1), 1) := by decide +kernel
theorem dX3_init_38 : decode prog_5_method_1_code 38 = .ok (.putfield 27, 3) := by decide +kernel
theorem dX3_init_41 : decode prog_5_method_1_code 41 = .ok (.return_, 1) := by decide +kernel
theorem dX3_restore_0 : decode prog_5_method_11_code 0 = .ok (.aload_n 0, 1) := by decide +kernel
theorem dX3_restore_1 : decode prog_5_method_11_code 1 = .ok (.getfield 12, 3) := by decide +kernel
theorem dX3_restore_4 : decode prog_5_method_11_code 4 = .ok (.aload_n 0, 1) := by decide +kernel
theorem dX3_restore_5 : decode prog_5_method_11_code 5 = .ok (.getfield 18, 3) := by decide +kernel
theorem dX3_restore_8 : decode prog_5_method_11_code 8 = .ok (.invokevirtual 65, 3) := by decide +kernel
theorem dX3_restore_11 : decode prog_5_method_11_code 11 = .ok (.aload_n 0, 1) := by decide +kernel
theorem dX3_restore_12 : decode prog_5_method_11_code 12 = .ok (.iconst 0, 1) := by decide +kernel
theorem dX3_restore_13 : decode prog_5_method_11_code 13 = .ok (.putfield 41, 3) := by decide +kernel
theorem dX3_restore_16 : decode prog_5_method_11_code 16 = .ok (.aload_n 0, 1) := by decide +kernel
theorem dX3_restore_17 : decode prog_5_method_11_code 17 = .ok (.iconst 0, 1) := by decide +kernel
theorem dX3_restore_18 : decode prog_5_method_11_code 18 = .ok (.putfield 75, 3) := by decide +kernel
theorem dX3_restore_21 : decode prog_5_method_11_code 21 = .ok (.aload_n 0, 1) := by decide +kernel
theorem dX3_restore_22 : decode prog_5_method_11_code 22 = .ok (.iconst (-1), 1) := by decide +kernel
theorem dX3_restore_23 : decode prog_5_method_11_code 23 = .ok (.putfield 27, 3) := by decide +kernel
theorem dX3_restore_26 : decode prog_5_method_11_code 26 = .ok (.return_, 1) := by decide +kernel
theorem dX3_countFlaws_0 : decode prog_5_method_12_code 0 = .ok (.aload_n 0, 1) := by decide +kernel
theorem dX3_countFlaws_1 : decode prog_5_method_12_code 1 = .ok (.getfield 12, 3) := by decide +kernel
theorem dX3_countFlaws_4 : decode prog_5_method_12_code 4 = .ok (.invokevirtual 81, 3) := by decide +kernel
theorem dX3_countFlaws_7 : decode prog_5_method_12_code 7 = .ok (.aload_n 0, 1) := by decide +kernel
theorem dX3_countFlaws_8 : decode prog_5_method_12_code 8 = .ok (.getfield 18, 3) := by decide +kernel
theorem dX3_countFlaws_11 : decode prog_5_method_12_code 11 = .ok (.invokevirtual 81, 3) := by decide +kernel
theorem dX3_countFlaws_14 : decode prog_5_method_12_code 14 = .ok (.iadd, 1) := by decide +kernel
theorem dX3_countFlaws_15 : decode prog_5_method_12_code 15 = .ok (.istore_n 1, 1) := by decide +kernel
theorem dX3_countFlaws_16 : decode prog_5_method_12_code 16 = .ok (.aload_n 0, 1) := by decide +kernel
theorem dX3_countFlaws_17 : decode prog_5_method_12_code 17 = .ok (.getfield 69, 3) := by decide +kernel
theorem dX3_countFlaws_20 : decode prog_5_method_12_code 20 = .ok (.ifCond .lt 29, 3) := by decide +kernel
theorem dX3_countFlaws_23 : decode prog_5_method_12_code 23 = .ok (.aload_n 0, 1) := by decide +kernel
theorem dX3_countFlaws_24 : decode prog_5_method_12_code 24 = .ok (.getfield 69, 3) := by decide +kernel
theorem dX3_countFlaws_27 : decode prog_5_method_12_code 27 = .ok (.bipush 64, 2) := by decide +kernel
theorem dX3_countFlaws_29 : decode prog_5_method_12_code 29 = .ok (.if_icmp .gt 20, 3) := by decide +kernel
theorem dX3_countFlaws_32 : decode prog_5_method_12_code 32 = .ok (.aload_n 0, 1) := by decide +kernel
theorem dX3_countFlaws_33 : decode prog_5_method_12_code 33 = .ok (.getfield 45, 3) := by decide +kernel
theorem dX3_countFlaws_36 : decode prog_5_method_12_code 36 = .ok (.ifCond .lt 13, 3) := by decide +kernel
theorem dX3_countFlaws_39 : decode prog_5_method_12_code 39 = .ok (.aload_n 0, 1) := by decide +kernel
theorem dX3_countFlaws_40 : decode prog_5_method_12_code 40 = .ok (.getfield 45, 3) := by decide +kernel
theorem dX3_countFlaws_43 : decode prog_5_method_12_code 43 = .ok (.sipush 14112, 3) := by decide +kernel
theorem dX3_countFlaws_46 : decode prog_5_method_12_code 46 = .ok (.if_icmp .le 6, 3) := by decide +kernel
theorem dX3_countFlaws_52 : decode prog_5_method_12_code 52 = .ok (.aload_n 0, 1) := by decide +kernel
theorem dX3_countFlaws_53 : decode prog_5_method_12_code 53 = .ok (.getfield 41, 3) := by decide +kernel
theorem dX3_countFlaws_56 : decode prog_5_method_12_code 56 = .ok (.ifCond .ne 30, 3) := by decide +kernel
theorem dX3_countFlaws_59 : decode prog_5_method_12_code 59 = .ok (.aload_n 0, 1) := by decide +kernel
theorem dX3_countFlaws_60 : decode prog_5_method_12_code 60 = .ok (.getfield 75, 3) := by decide +kernel
theorem dX3_countFlaws_63 : decode prog_5_method_12_code 63 = .ok (.ifCond .ne 23, 3) := by decide +kernel
theorem dX3_countFlaws_66 : decode prog_5_method_12_code 66 = .ok (.aload_n 0, 1) := by decide +kernel
theorem dX3_countFlaws_67 : decode prog_5_method_12_code 67 = .ok (.getfield 12, 3) := by decide +kernel
theorem dX3_countFlaws_70 : decode prog_5_method_12_code 70 = .ok (.getfield 84, 3) := by decide +kernel
theorem dX3_countFlaws_73 : decode prog_5_method_12_code 73 = .ok (.aload_n 0, 1) := by decide +kernel
theorem dX3_countFlaws_74 : decode prog_5_method_12_code 74 = .ok (.getfield 18, 3) := by decide +kernel
theorem dX3_countFlaws_77 : decode prog_5_method_12_code 77 = .ok (.getfield 84, 3) := by decide +kernel
theorem dX3_countFlaws_80 : decode prog_5_method_12_code 80 = .ok (.if_icmp .eq 6, 3) := by decide +kernel
theorem dX3_countFlaws_86 : decode prog_5_method_12_code 86 = .ok (.iload_n 1, 1) := by decide +kernel
theorem dX3_countFlaws_87 : decode prog_5_method_12_code 87 = .ok (.ireturn, 1) := by decide +kernel
end
section
theorem dX5_init_0 : decode prog_7_method_1_code 0 = .ok (.aload_n 0, 1) := by decide +kernel
theorem dX5_init_1 : decode prog_7_method_1_code 1 = .ok (.invokespecial 3, 3) := by decide +kernel
theorem dX5_init_4 : decode prog_7_method_1_code 4 = .ok (.aload_n 0, 1) := by decide +kernel
theorem dX5_init_5 : decode prog_7_method_1_code 5 = .ok (.bipush 6, 2) := by decide +kernel
theorem dX5_init_7 : decode prog_7_method_1_code 7 = .ok (.newarray .int, 2) := by decide +kernel
theorem dX5_init_9 : decode prog_7_method_1_code 9 = .ok (.putfield 11, 3) := by decide +kernel
theorem dX5_init_12 : decode prog_7_method_1_code 12 = .ok (.aload_n 0, 1) := by decide +kernel
theorem dX5_init_13 : decode prog_7_method_1_code 13 = .ok (.new 15, 3) := by decide +kernel
theorem dX5_init_16 : decode prog_7_method_1_code 16 = .ok (.dup, 1) := by decide +kernel
theorem dX5_init_17 : decode prog_7_method_1_code 17 = .ok (.invokespecial 17, 3) := by decide +kernel
theorem dX5_init_20 : decode prog_7_method_1_code 20 = .ok (.putfield 18, 3) := by decide +kernel
theorem dX5_init_23 : decode prog_7_method_1_code 23 = .ok (.return_, 1) := by decide +kernel
theorem dX6_init_0 : decode prog_8_method_1_code 0 = .ok (.aload_n 0, 1) := by decide +kernel
theorem dX6_init_1 : decode prog_8_method_1_code 1 = .ok (.invokespecial 3, 3) := by decide +kernel
theorem dX6_init_4 : decode prog_8_method_1_code 4 = .ok (.aload_n 0, 1) := by decide +kernel
theorem dX6_init_5 : decode prog_8_method_1_code 5 = .ok (.aload_n 1, 1) := by decide +kernel
theorem dX6_init_6 : decode prog_8_method_1_code 6 = .ok (.putfield 9, 3) := by decide +kernel
theorem dX6_init_9 : decode prog_8_method_1_code 9 = .ok (.return_, 1) := by decide +kernel
end
section
theorem dX7_init_0 : decode prog_9_method_1_code 0 = .ok (.aload_n 0, 1) := by decide +kernel
theorem dX7_init_1 : decode prog_9_method_1_code 1 = .ok (.invokespecial 3, 3) := by decide +kernel
theorem dX7_init_4 : decode prog_9_method_1_code 4 = .ok (.aload_n 0, 1) := by decide +kernel
theorem dX7_init_5 : decode prog_9_method_1_code 5 = .ok (.bipush 40, 2) := by decide +kernel
theorem dX7_init_7 : decode prog_9_method_1_code 7 = .ok (.newarray .int, 2) := by decide +kernel
theorem dX7_init_9 : decode prog_9_method_1_code 9 = .ok (.putfield 9, 3) := by decide +kernel
theorem dX7_init_12 : decode prog_9_method_1_code 12 = .ok (.aload_n 0, 1) := by decide +kernel
theorem dX7_init_13 : decode prog_9_method_1_code 13 = .ok (.bipush 40, 2) := by decide +kernel
theorem dX7_init_15 : decode prog_9_method_1_code 15 = .ok (.newarray .int, 2) := by decide +kernel
theorem dX7_init_17 : decode prog_9_method_1_code 17 = .ok (.putfield 15, 3) := by decide +kernel
theorem dX7_init_20 : decode prog_9_method_1_code 20 = .ok (.aload_n 0, 1) := by decide +kernel
theorem dX7_init_21 : decode prog_9_method_1_code 21 = .ok (.bipush 8, 2) := by decide +kernel
theorem dX7_init_23 : decode prog_9_method_1_code 23 = .ok (.newarray .int, 2) := by decide +kernel
theorem dX7_init_25 : decode prog_9_method_1_code 25 = .ok (.putfield 18, 3) := by decide +kernel
theorem dX7_init_28 : decode prog_9_method_1_code 28 = .ok (.aload_n 0, 1) := by decide +kernel
theorem dX7_init_29 : decode prog_9_method_1_code 29 = .ok (.bipush 40, 2) := by decide +kernel
theorem dX7_init_31 : decode prog_9_method_1_code 31 = .ok (.newarray .boolean, 2) := by decide +kernel
theorem dX7_init_33 : decode prog_9_method_1_code 33 = .ok (.putfield 21, 3) := by decide +kernel
theorem dX7_init_36 : decode prog_9_method_1_code 36 = .ok (.return_, 1) := by decide +kernel
theorem dX8_init_0 : decode prog_10_method_1_code 0 = .ok (.aload_n 0, 1) := by decide +kernel
theorem dX8_init_1 : decode prog_10_method_1_code 1 = .ok (.invokespecial 3, 3) := by decide +kernel
theorem dX8_init_4 : decode prog_10_method_1_code 4 = .ok (.aload_n 0, 1) := by decide +kernel
theorem dX8_init_5 : decode prog_10_method_1_code 5 = .ok (.sipush 200, 3) := by decide +kernel
theorem dX8_init_8 : decode prog_10_method_1_code 8 = .ok (.newarray .int, 2) := by decide +kernel
theorem dX8_init_10 : decode prog_10_method_1_code 10 = .ok (.putfield 9, 3) := by decide +kernel
theorem dX8_init_13 : decode prog_10_method_1_code 13 = .ok (.aload_n 0, 1) := by decide +kernel
theorem dX8_init_14 : decode prog_10_method_1_code 14 = .ok (.sipush 200, 3) := by decide +kernel
theorem dX8_init_17 : decode prog_10_method_1_code 17 = .ok (.anewarray 15, 3) := by decide +kernel
theorem dX8_init_20 : decode prog_10_method_1_code 20 = .ok (.putfield 17, 3) := by decide +kernel
theorem dX8_init_23 : decode prog_10_method_1_code 23 = .ok (.aload_n 0, 1) := by decide +kernel
theorem dX8_init_24 : decode prog_10_method_1_code 24 = .ok (.iconst 0, 1) := by decide +kernel
theorem dX8_init_25 : decode prog_10_method_1_code 25 = .ok (.putfield 21, 3) := by decide +kernel
theorem dX8_init_28 : decode prog_10_method_1_code 28 = .ok (.return_, 1) := by decide +kernel
theorem dX8_indexOf_0 : decode prog_10_method_2_code 0 = .ok (.iconst 0, 1) := by decide +kernel
theorem dX8_indexOf_1 : decode prog_10_method_2_code 1 = .ok (.istore_n 2, 1) := by decide +kernel
theorem dX8_indexOf_2 : decode prog_10_method_2_code 2 = .ok (.iload_n 2, 1) := by decide +kernel
theorem dX8_indexOf_3 : decode prog_10_method_2_code 3 = .ok (.aload_n 0, 1) := by decide +kernel
theorem dX8_indexOf_4 : decode prog_10_method_2_code 4 = .ok (.getfield 21, 3) := by decide +kernel
theorem dX8_indexOf_7 : decode prog_10_method_2_code 7 = .ok (.if_icmp .ge 21, 3) := by decide +kernel
theorem dX8_indexOf_10 : decode prog_10_method_2_code 10 = .ok (.aload_n 0, 1) := by decide +kernel
theorem dX8_indexOf_11 : decode prog_10_method_2_code 11 = .ok (.getfield 9, 3) := by decide +kernel
theorem dX8_indexOf_14 : decode prog_10_method_2_code 14 = .ok (.iload_n 2, 1) := by decide +kernel
theorem dX8_indexOf_15 : decode prog_10_method_2_code 15 = .ok (.iaload, 1) := by decide +kernel
theorem dX8_indexOf_16 : decode prog_10_method_2_code 16 = .ok (.iload_n 1, 1) := by decide +kernel
theorem dX8_indexOf_17 : decode prog_10_method_2_code 17 = .ok (.if_icmp .ne 5, 3) := by decide +kernel
theorem dX8_indexOf_20 : decode prog_10_method_2_code 20 = .ok (.iload_n 2, 1) := by decide +kernel
theorem dX8_indexOf_21 : decode prog_10_method_2_code 21 = .ok (.ireturn, 1) := by decide +kernel
theorem dX8_indexOf_22 : decode prog_10_method_2_code 22 = .ok (.iinc 2 1, 3) := by decide +kernel
theorem dX8_indexOf_25 : decode prog_10_method_2_code 25 = .ok (.goto (-23), 3) := by decide +kernel
theorem dX8_indexOf_28 : decode prog_10_method_2_code 28 = .ok (.iconst (-1), 1) := by decide +kernel
theorem dX8_indexOf_29 : decode prog_10_method_2_code 29 = .ok (.ireturn, 1) := by decide +kernel
theorem dX8_shapeWith_0 : decode prog_10_method_3_code 0 = .ok (.aload_n 0, 1) := by decide +kernel
theorem dX8_shapeWith_1 : decode prog_10_method_3_code 1 = .ok (.iload_n 1, 1) := by decide +kernel
theorem dX8_shapeWith_2 : decode prog_10_method_3_code 2 = .ok (.invokevirtual 25, 3) := by decide +kernel
theorem dX8_shapeWith_5 : decode prog_10_method_3_code 5 = .ok (.istore_n 2, 1) := by decide +kernel
theorem dX8_shapeWith_6 : decode prog_10_method_3_code 6 = .ok (.iload_n 2, 1) := by decide +kernel
theorem dX8_shapeWith_7 : decode prog_10_method_3_code 7 = .ok (.ifCond .ge 7, 3) := by decide +kernel
theorem dX8_shapeWith_10 : decode prog_10_method_3_code 10 = .ok (.aconst_null, 1) := by decide +kernel
theorem dX8_shapeWith_11 : decode prog_10_method_3_code 11 = .ok (.goto 9, 3) := by decide +kernel
theorem dX8_shapeWith_14 : decode prog_10_method_3_code 14 = .ok (.aload_n 0, 1) := by decide +kernel
theorem dX8_shapeWith_15 : decode prog_10_method_3_code 15 = .ok (.getfield 17, 3) := by decide +kernel
theorem dX8_shapeWith_18 : decode prog_10_method_3_code 18 = .ok (.iload_n 2, 1) := by decide +kernel
theorem dX8_shapeWith_19 : decode prog_10_method_3_code 19 = .ok (.aaload, 1) := by decide +kernel
theorem dX8_shapeWith_20 : decode prog_10_method_3_code 20 = .ok (.areturn, 1) := by decide +kernel
end
section
theorem dX8_copyFrom_0 : decode prog_10_method_7_code 0 = .ok (.iconst 0, 1) := by decide +kernel
theorem dX8_copyFrom_1 : decode prog_10_method_7_code 1 = .ok (.istore_n 2, 1) := by decide +kernel
theorem dX8_copyFrom_2 : decode prog_10_method_7_code 2 = .ok (.iload_n 2, 1) := by decide +kernel
theorem dX8_copyFrom_3 : decode prog_10_method_7_code 3 = .ok (.aload_n 0, 1) := by decide +kernel
theorem dX8_copyFrom_4 : decode prog_10_method_7_code 4 = .ok (.getfield 21, 3) := by decide +kernel
theorem dX8_copyFrom_7 : decode prog_10_method_7_code 7 = .ok (.if_icmp .ge 24, 3) := by decide +kernel
theorem dX8_copyFrom_31 : decode prog_10_method_7_code 31 = .ok (.aload_n 0, 1) := by decide +kernel
theorem dX8_copyFrom_32 : decode prog_10_method_7_code 32 = .ok (.aload_n 1, 1) := by decide +kernel
theorem dX8_copyFrom_33 : decode prog_10_method_7_code 33 = .ok (.getfield 21, 3) := by decide +kernel
theorem dX8_copyFrom_36 : decode prog_10_method_7_code 36 = .ok (.putfield 21, 3) := by decide +kernel
theorem dX8_copyFrom_39 : decode prog_10_method_7_code 39 = .ok (.iconst 0, 1) := by decide +kernel
theorem dX8_copyFrom_40 : decode prog_10_method_7_code 40 = .ok (.istore_n 2, 1) := by decide +kernel
theorem dX8_copyFrom_41 : decode prog_10_method_7_code 41 = .ok (.iload_n 2, 1) := by decide +kernel
theorem dX8_copyFrom_42 : decode prog_10_method_7_code 42 = .ok (.aload_n 0, 1) := by decide +kernel
theorem dX8_copyFrom_43 : decode prog_10_method_7_code 43 = .ok (.getfield 21, 3) := by decide +kernel
theorem dX8_copyFrom_46 : decode prog_10_method_7_code 46 = .ok (.if_icmp .ge 48, 3) := by decide +kernel
theorem dX8_copyFrom_94 : decode prog_10_method_7_code 94 = .ok (.return_, 1) := by decide +kernel
theorem dX8_countBadRows_0 : decode prog_10_method_8_code 0 = .ok (.iconst 0, 1) := by decide +kernel
theorem dX8_countBadRows_1 : decode prog_10_method_8_code 1 = .ok (.istore_n 1, 1) := by decide +kernel
theorem dX8_countBadRows_2 : decode prog_10_method_8_code 2 = .ok (.iconst 0, 1) := by decide +kernel
theorem dX8_countBadRows_3 : decode prog_10_method_8_code 3 = .ok (.istore_n 2, 1) := by decide +kernel
theorem dX8_countBadRows_4 : decode prog_10_method_8_code 4 = .ok (.iload_n 2, 1) := by decide +kernel
theorem dX8_countBadRows_5 : decode prog_10_method_8_code 5 = .ok (.aload_n 0, 1) := by decide +kernel
theorem dX8_countBadRows_6 : decode prog_10_method_8_code 6 = .ok (.getfield 21, 3) := by decide +kernel
theorem dX8_countBadRows_9 : decode prog_10_method_8_code 9 = .ok (.if_icmp .ge 124, 3) := by decide +kernel
theorem dX8_countBadRows_133 : decode prog_10_method_8_code 133 = .ok (.iload_n 1, 1) := by decide +kernel
theorem dX8_countBadRows_134 : decode prog_10_method_8_code 134 = .ok (.ireturn, 1) := by decide +kernel
theorem dX9_init_0 : decode prog_11_method_1_code 0 = .ok (.aload_n 0, 1) := by decide +kernel
theorem dX9_init_1 : decode prog_11_method_1_code 1 = .ok (.invokespecial 3, 3) := by decide +kernel
theorem dX9_init_4 : decode prog_11_method_1_code 4 = .ok (.aload_n 0, 1) := by decide +kernel
theorem dX9_init_5 : decode prog_11_method_1_code 5 = .ok (.sipush 4000, 3) := by decide +kernel
theorem dX9_init_8 : decode prog_11_method_1_code 8 = .ok (.newarray .byte, 2) := by decide +kernel
theorem dX9_init_10 : decode prog_11_method_1_code 10 = .ok (.putfield 9, 3) := by decide +kernel
theorem dX9_init_13 : decode prog_11_method_1_code 13 = .ok (.aload_n 0, 1) := by decide +kernel
theorem dX9_init_14 : decode prog_11_method_1_code 14 = .ok (.iconst 0, 1) := by decide +kernel
theorem dX9_init_15 : decode prog_11_method_1_code 15 = .ok (.putfield 15, 3) := by decide +kernel
theorem dX9_init_18 : decode prog_11_method_1_code 18 = .ok (.return_, 1) := by decide +kernel
theorem dX9_append_0 : decode prog_11_method_2_code 0 = .ok (.bipush 56, 2) := by decide +kernel
theorem dX9_append_2 : decode prog_11_method_2_code 2 = .ok (.istore_n 3, 1) := by decide +kernel
theorem dX9_append_3 : decode prog_11_method_2_code 3 = .ok (.iload_n 3, 1) := by decide +kernel
theorem dX9_append_4 : decode prog_11_method_2_code 4 = .ok (.ifCond .lt 43, 3) := by decide +kernel
theorem dX9_append_7 : decode prog_11_method_2_code 7 = .ok (.aload_n 0, 1) := by decide +kernel
theorem dX9_append_8 : decode prog_11_method_2_code 8 = .ok (.getfield 15, 3) := by decide +kernel
theorem dX9_append_11 : decode prog_11_method_2_code 11 = .ok (.sipush 4000, 3) := by decide +kernel
theorem dX9_append_14 : decode prog_11_method_2_code 14 = .ok (.if_icmp .ge 33, 3) := by decide +kernel
theorem dX9_append_17 : decode prog_11_method_2_code 17 = .ok (.aload_n 0, 1) := by decide +kernel
theorem dX9_append_18 : decode prog_11_method_2_code 18 = .ok (.getfield 9, 3) := by decide +kernel
theorem dX9_append_21 : decode prog_11_method_2_code 21 = .ok (.aload_n 0, 1) := by decide +kernel
theorem dX9_append_22 : decode prog_11_method_2_code 22 = .ok (.getfield 15, 3) := by decide +kernel
theorem dX9_append_25 : decode prog_11_method_2_code 25 = .ok (.lload_n 1, 1) := by decide +kernel
theorem dX9_append_26 : decode prog_11_method_2_code 26 = .ok (.iload_n 3, 1) := by decide +kernel
theorem dX9_append_27 : decode prog_11_method_2_code 27 = .ok (.lushr, 1) := by decide +kernel
theorem dX9_append_28 : decode prog_11_method_2_code 28 = .ok (.l2i, 1) := by decide +kernel
theorem dX9_append_29 : decode prog_11_method_2_code 29 = .ok (.i2b, 1) := by decide +kernel
theorem dX9_append_30 : decode prog_11_method_2_code 30 = .ok (.bastore, 1) := by decide +kernel
theorem dX9_append_31 : decode prog_11_method_2_code 31 = .ok (.aload_n 0, 1) := by decide +kernel
theorem dX9_append_32 : decode prog_11_method_2_code 32 = .ok (.dup, 1) := by decide +kernel
theorem dX9_append_33 : decode prog_11_method_2_code 33 = .ok (.getfield 15, 3) := by decide +kernel
theorem dX9_append_36 : decode prog_11_method_2_code 36 = .ok (.iconst 1, 1) := by decide +kernel
theorem dX9_append_37 : decode prog_11_method_2_code 37 = .ok (.iadd, 1) := by decide +kernel
theorem dX9_append_38 : decode prog_11_method_2_code 38 = .ok (.putfield 15, 3) := by decide +kernel
theorem dX9_append_41 : decode prog_11_method_2_code 41 = .ok (.iinc 3 (-8), 3) := by decide +kernel
theorem dX9_append_44 : decode prog_11_method_2_code 44 = .ok (.goto (-41), 3) := by decide +kernel
theorem dX9_append_47 : decode prog_11_method_2_code 47 = .ok (.return_, 1) := by decide +kernel
theorem dX9_clear_0 : decode prog_11_method_3_code 0 = .ok (.aload_n 0, 1) := by decide +kernel
theorem dX9_clear_1 : decode prog_11_method_3_code 1 = .ok (.iconst 0, 1) := by decide +kernel
theorem dX9_clear_2 : decode prog_11_method_3_code 2 = .ok (.putfield 15, 3) := by decide +kernel
theorem dX9_clear_5 : decode prog_11_method_3_code 5 = .ok (.return_, 1) := by decide +kernel
theorem dX9_rewind_0 : decode prog_11_method_4_code 0 = .ok (.aload_n 0, 1) := by decide +kernel
theorem dX9_rewind_1 : decode prog_11_method_4_code 1 = .ok (.iconst 0, 1) := by decide +kernel
theorem dX9_rewind_2 : decode prog_11_method_4_code 2 = .ok (.putfield 19, 3) := by decide +kernel
theorem dX9_rewind_5 : decode prog_11_method_4_code 5 = .ok (.aload_n 0, 1) := by decide +kernel
theorem dX9_rewind_6 : decode prog_11_method_4_code 6 = .ok (.invokevirtual 22, 3) := by decide +kernel
theorem dX9_rewind_9 : decode prog_11_method_4_code 9 = .ok (.return_, 1) := by decide +kernel
theorem dX9_advance_0 : decode prog_11_method_5_code 0 = .ok (.aload_n 0, 1) := by decide +kernel
theorem dX9_advance_1 : decode prog_11_method_5_code 1 = .ok (.getfield 19, 3) := by decide +kernel
theorem dX9_advance_4 : decode prog_11_method_5_code 4 = .ok (.istore_n 1, 1) := by decide +kernel
theorem dX9_advance_5 : decode prog_11_method_5_code 5 = .ok (.iload_n 1, 1) := by decide +kernel
theorem dX9_advance_6 : decode prog_11_method_5_code 6 = .ok (.aload_n 0, 1) := by decide +kernel
theorem dX9_advance_7 : decode prog_11_method_5_code 7 = .ok (.getfield 15, 3) := by decide +kernel
theorem dX9_advance_10 : decode prog_11_method_5_code 10 = .ok (.if_icmp .ge 31, 3) := by decide +kernel
theorem dX9_advance_41 : decode prog_11_method_5_code 41 = .ok (.aload_n 0, 1) := by decide +kernel
theorem dX9_advance_42 : decode prog_11_method_5_code 42 = .ok (.iload_n 1, 1) := by decide +kernel
theorem dX9_advance_43 : decode prog_11_method_5_code 43 = .ok (.putfield 25, 3) := by decide +kernel
theorem dX9_advance_46 : decode prog_11_method_5_code 46 = .ok (.aload_n 0, 1) := by decide +kernel
theorem dX9_advance_47 : decode prog_11_method_5_code 47 = .ok (.iload_n 1, 1) := by decide +kernel
theorem dX9_advance_48 : decode prog_11_method_5_code 48 = .ok (.putfield 19, 3) := by decide +kernel
theorem dX9_advance_51 : decode prog_11_method_5_code 51 = .ok (.iload_n 1, 1) := by decide +kernel
theorem dX9_advance_52 : decode prog_11_method_5_code 52 = .ok (.aload_n 0, 1) := by decide +kernel
theorem dX9_advance_53 : decode prog_11_method_5_code 53 = .ok (.getfield 15, 3) := by decide +kernel
theorem dX9_advance_56 : decode prog_11_method_5_code 56 = .ok (.if_icmp .lt 11, 3) := by decide +kernel
theorem dX9_advance_59 : decode prog_11_method_5_code 59 = .ok (.aload_n 0, 1) := by decide +kernel
theorem dX9_advance_60 : decode prog_11_method_5_code 60 = .ok (.iconst 0, 1) := by decide +kernel
theorem dX9_advance_61 : decode prog_11_method_5_code 61 = .ok (.putfield 28, 3) := by decide +kernel
theorem dX9_advance_64 : decode prog_11_method_5_code 64 = .ok (.goto 142, 3) := by decide +kernel
theorem dX9_advance_206 : decode prog_11_method_5_code 206 = .ok (.return_, 1) := by decide +kernel
theorem dX10_init_0 : decode prog_1_method_1_code 0 = .ok (.aload_n 0, 1) := by decide +kernel
theorem dX10_init_1 : decode prog_1_method_1_code 1 = .ok (.invokespecial 1, 3) := by decide +kernel
theorem dX10_init_4 : decode prog_1_method_1_code 4 = .ok (.aload_n 0, 1) := by decide +kernel
theorem dX10_init_5 : decode prog_1_method_1_code 5 = .ok (.new 7, 3) := by decide +kernel
theorem dX10_init_8 : decode prog_1_method_1_code 8 = .ok (.dup, 1) := by decide +kernel
theorem dX10_init_9 : decode prog_1_method_1_code 9 = .ok (.invokespecial 9, 3) := by decide +kernel
theorem dX10_init_12 : decode prog_1_method_1_code 12 = .ok (.putfield 10, 3) := by decide +kernel
theorem dX10_init_15 : decode prog_1_method_1_code 15 = .ok (.aload_n 0, 1) := by decide +kernel
theorem dX10_init_16 : decode prog_1_method_1_code 16 = .ok (.new 16, 3) := by decide +kernel
theorem dX10_init_19 : decode prog_1_method_1_code 19 = .ok (.dup, 1) := by decide +kernel
theorem dX10_init_20 : decode prog_1_method_1_code 20 = .ok (.invokespecial 18, 3) := by decide +kernel
theorem dX10_init_23 : decode prog_1_method_1_code 23 = .ok (.putfield 19, 3) := by decide +kernel
theorem dX10_init_26 : decode prog_1_method_1_code 26 = .ok (.aload_n 0, 1) := by decide +kernel
theorem dX10_init_27 : decode prog_1_method_1_code 27 = .ok (.new 23, 3) := by decide +kernel
theorem dX10_init_30 : decode prog_1_method_1_code 30 = .ok (.dup, 1) := by decide +kernel
theorem dX10_init_31 : decode prog_1_method_1_code 31 = .ok (.invokespecial 25, 3) := by decide +kernel
theorem dX10_init_34 : decode prog_1_method_1_code 34 = .ok (.putfield 26, 3) := by decide +kernel
theorem dX10_init_37 : decode prog_1_method_1_code 37 = .ok (.new 30, 3) := by decide +kernel
theorem dX10_init_40 : decode prog_1_method_1_code 40 = .ok (.dup, 1) := by decide +kernel
theorem dX10_init_41 : decode prog_1_method_1_code 41 = .ok (.invokespecial 32, 3) := by decide +kernel
theorem dX10_init_44 : decode prog_1_method_1_code 44 = .ok (.astore_n 1, 1) := by decide +kernel
theorem dX10_init_45 : decode prog_1_method_1_code 45 = .ok (.aload_n 0, 1) := by decide +kernel
theorem dX10_init_46 : decode prog_1_method_1_code 46 = .ok (.new 33, 3) := by decide +kernel
theorem dX10_init_49 : decode prog_1_method_1_code 49 = .ok (.dup, 1) := by decide +kernel
theorem dX10_init_50 : decode prog_1_method_1_code 50 = .ok (.aload_n 1, 1) := by decide +kernel
theorem dX10_init_51 : decode prog_1_method_1_code 51 = .ok (.invokespecial 35, 3) := by decide +kernel
theorem dX10_init_54 : decode prog_1_method_1_code 54 = .ok (.putfield 38, 3) := by decide +kernel
theorem dX10_init_57 : decode prog_1_method_1_code 57 = .ok (.aload_n 0, 1) := by decide +kernel
theorem dX10_init_58 : decode prog_1_method_1_code 58 = .ok (.new 42, 3) := by decide +kernel
theorem dX10_init_61 : decode prog_1_method_1_code 61 = .ok (.dup, 1) := by decide +kernel
theorem dX10_init_62 : decode prog_1_method_1_code 62 = .ok (.aload_n 1, 1) := by decide +kernel
theorem dX10_init_63 : decode prog_1_method_1_code 63 = .ok (.invokespecial 44, 3) := by decide +kernel
theorem dX10_init_66 : decode prog_1_method_1_code 66 = .ok (.putfield 45, 3) := by decide +kernel
theorem dX10_init_69 : decode prog_1_method_1_code 69 = .ok (.aload_n 0, 1) := by decide +kernel
theorem dX10_init_70 : decode prog_1_method_1_code 70 = .ok (.sipush 200, 3) := by decide +kernel
theorem dX10_init_73 : decode prog_1_method_1_code 73 = .ok (.anewarray 49, 3) := by decide +kernel
theorem dX10_init_76 : decode prog_1_method_1_code 76 = .ok (.putfield 51, 3) := by decide +kernel
theorem dX10_init_79 : decode prog_1_method_1_code 79 = .ok (.iconst 0, 1) := by decide +kernel
theorem dX10_init_80 : decode prog_1_method_1_code 80 = .ok (.istore_n 2, 1) := by decide +kernel
theorem dX10_init_81 : decode prog_1_method_1_code 81 = .ok (.iload_n 2, 1) := by decide +kernel
theorem dX10_init_82 : decode prog_1_method_1_code 82 = .ok (.sipush 200, 3) := by decide +kernel
theorem dX10_init_85 : decode prog_1_method_1_code 85 = .ok (.if_icmp .ge 22, 3) := by decide +kernel
theorem dX10_init_88 : decode prog_1_method_1_code 88 = .ok (.aload_n 0, 1) := by decide +kernel
theorem dX10_init_89 : decode prog_1_method_1_code 89 = .ok (.getfield 51, 3) := by decide +kernel
theorem dX10_init_92 : decode prog_1_method_1_code 92 = .ok (.iload_n 2, 1) := by decide +kernel
theorem dX10_init_93 : decode prog_1_method_1_code 93 = .ok (.new 49, 3) := by decide +kernel
theorem dX10_init_96 : decode prog_1_method_1_code 96 = .ok (.dup, 1) := by decide +kernel
theorem dX10_init_97 : decode prog_1_method_1_code 97 = .ok (.invokespecial 55, 3) := by decide +kernel
theorem dX10_init_100 : decode prog_1_method_1_code 100 = .ok (.aastore, 1) := by decide +kernel
theorem dX10_init_101 : decode prog_1_method_1_code 101 = .ok (.iinc 2 1, 3) := by decide +kernel
theorem dX10_init_104 : decode prog_1_method_1_code 104 = .ok (.goto (-23), 3) := by decide +kernel
theorem dX10_init_107 : decode prog_1_method_1_code 107 = .ok (.aload_n 0, 1) := by decide +kernel
theorem dX10_init_108 : decode prog_1_method_1_code 108 = .ok (.sipush 200, 3) := by decide +kernel
theorem dX10_init_111 : decode prog_1_method_1_code 111 = .ok (.newarray .int, 2) := by decide +kernel
theorem dX10_init_113 : decode prog_1_method_1_code 113 = .ok (.putfield 56, 3) := by decide +kernel
theorem dX10_init_116 : decode prog_1_method_1_code 116 = .ok (.aload_n 0, 1) := by decide +kernel
theorem dX10_init_117 : decode prog_1_method_1_code 117 = .ok (.sipush 20000, 3) := by decide +kernel
theorem dX10_init_120 : decode prog_1_method_1_code 120 = .ok (.newarray .int, 2) := by decide +kernel
theorem dX10_init_122 : decode prog_1_method_1_code 122 = .ok (.putfield 60, 3) := by decide +kernel
theorem dX10_init_125 : decode prog_1_method_1_code 125 = .ok (.aload_n 0, 1) := by decide +kernel
theorem dX10_init_126 : decode prog_1_method_1_code 126 = .ok (.iconst 0, 1) := by decide +kernel
theorem dX10_init_127 : decode prog_1_method_1_code 127 = .ok (.putfield 63, 3) := by decide +kernel
theorem dX10_init_130 : decode prog_1_method_1_code 130 = .ok (.aload_n 0, 1) := by decide +kernel
theorem dX10_init_131 : decode prog_1_method_1_code 131 = .ok (.iconst 0, 1) := by decide +kernel
theorem dX10_init_132 : decode prog_1_method_1_code 132 = .ok (.putfield 67, 3) := by decide +kernel
theorem dX10_init_135 : decode prog_1_method_1_code 135 = .ok (.aload_n 0, 1) := by decide +kernel
theorem dX10_init_136 : decode prog_1_method_1_code 136 = .ok (.iconst (-1), 1) := by decide +kernel
theorem dX10_init_137 : decode prog_1_method_1_code 137 = .ok (.putfield 70, 3) := by decide +kernel
theorem dX10_init_140 : decode prog_1_method_1_code 140 = .ok (.return_, 1) := by decide +kernel
theorem dX10_feed_0 : decode prog_1_method_2_code 0 = .ok (.aload_n 0, 1) := by decide +kernel
theorem dX10_feed_1 : decode prog_1_method_2_code 1 = .ok (.getfield 10, 3) := by decide +kernel
theorem dX10_feed_4 : decode prog_1_method_2_code 4 = .ok (.getfield 73, 3) := by decide +kernel
theorem dX10_feed_7 : decode prog_1_method_2_code 7 = .ok (.bipush 40, 2) := by decide +kernel
theorem dX10_feed_9 : decode prog_1_method_2_code 9 = .ok (.iadd, 1) := by decide +kernel
theorem dX10_feed_10 : decode prog_1_method_2_code 10 = .ok (.sipush 4000, 3) := by decide +kernel
theorem dX10_feed_13 : decode prog_1_method_2_code 13 = .ok (.if_icmp .le 5, 3) := by decide +kernel
theorem dX10_feed_16 : decode prog_1_method_2_code 16 = .ok (.iconst (-1), 1) := by decide +kernel
theorem dX10_feed_17 : decode prog_1_method_2_code 17 = .ok (.ireturn, 1) := by decide +kernel
theorem dX10_feed_18 : decode prog_1_method_2_code 18 = .ok (.aload_n 0, 1) := by decide +kernel
theorem dX10_feed_19 : decode prog_1_method_2_code 19 = .ok (.getfield 10, 3) := by decide +kernel
theorem dX10_feed_22 : decode prog_1_method_2_code 22 = .ok (.lload_n 1, 1) := by decide +kernel
theorem dX10_feed_23 : decode prog_1_method_2_code 23 = .ok (.invokevirtual 76, 3) := by decide +kernel
theorem dX10_feed_26 : decode prog_1_method_2_code 26 = .ok (.aload_n 0, 1) := by decide +kernel
theorem dX10_feed_27 : decode prog_1_method_2_code 27 = .ok (.getfield 10, 3) := by decide +kernel
theorem dX10_feed_30 : decode prog_1_method_2_code 30 = .ok (.lload_n 3, 1) := by decide +kernel
theorem dX10_feed_31 : decode prog_1_method_2_code 31 = .ok (.invokevirtual 76, 3) := by decide +kernel
theorem dX10_feed_34 : decode prog_1_method_2_code 34 = .ok (.aload_n 0, 1) := by decide +kernel
theorem dX10_feed_35 : decode prog_1_method_2_code 35 = .ok (.getfield 10, 3) := by decide +kernel
theorem dX10_feed_38 : decode prog_1_method_2_code 38 = .ok (.lload 5, 2) := by decide +kernel
theorem dX10_feed_40 : decode prog_1_method_2_code 40 = .ok (.invokevirtual 76, 3) := by decide +kernel
theorem dX10_feed_43 : decode prog_1_method_2_code 43 = .ok (.aload_n 0, 1) := by decide +kernel
theorem dX10_feed_44 : decode prog_1_method_2_code 44 = .ok (.getfield 10, 3) := by decide +kernel
theorem dX10_feed_47 : decode prog_1_method_2_code 47 = .ok (.lload 7, 2) := by decide +kernel
theorem dX10_feed_49 : decode prog_1_method_2_code 49 = .ok (.invokevirtual 76, 3) := by decide +kernel
theorem dX10_feed_52 : decode prog_1_method_2_code 52 = .ok (.aload_n 0, 1) := by decide +kernel
theorem dX10_feed_53 : decode prog_1_method_2_code 53 = .ok (.getfield 10, 3) := by decide +kernel
theorem dX10_feed_56 : decode prog_1_method_2_code 56 = .ok (.lload 9, 2) := by decide +kernel
theorem dX10_feed_58 : decode prog_1_method_2_code 58 = .ok (.invokevirtual 76, 3) := by decide +kernel
theorem dX10_feed_61 : decode prog_1_method_2_code 61 = .ok (.aload_n 0, 1) := by decide +kernel
theorem dX10_feed_62 : decode prog_1_method_2_code 62 = .ok (.getfield 10, 3) := by decide +kernel
theorem dX10_feed_65 : decode prog_1_method_2_code 65 = .ok (.getfield 73, 3) := by decide +kernel
theorem dX10_feed_68 : decode prog_1_method_2_code 68 = .ok (.ireturn, 1) := by decide +kernel
theorem dX10_end_0 : decode prog_1_method_3_code 0 = .ok (.iload_n 1, 1) := by decide +kernel
theorem dX10_end_1 : decode prog_1_method_3_code 1 = .ok (.ifCond .lt 23, 3) := by decide +kernel
theorem dX10_end_4 : decode prog_1_method_3_code 4 = .ok (.iload_n 1, 1) := by decide +kernel
theorem dX10_end_5 : decode prog_1_method_3_code 5 = .ok (.bipush 40, 2) := by decide +kernel
theorem dX10_end_7 : decode prog_1_method_3_code 7 = .ok (.if_icmp .gt 17, 3) := by decide +kernel
theorem dX10_end_10 : decode prog_1_method_3_code 10 = .ok (.aload_n 0, 1) := by decide +kernel
theorem dX10_end_11 : decode prog_1_method_3_code 11 = .ok (.getfield 10, 3) := by decide +kernel
theorem dX10_end_14 : decode prog_1_method_3_code 14 = .ok (.getfield 73, 3) := by decide +kernel
theorem dX10_end_17 : decode prog_1_method_3_code 17 = .ok (.bipush 40, 2) := by decide +kernel
theorem dX10_end_19 : decode prog_1_method_3_code 19 = .ok (.iload_n 1, 1) := by decide +kernel
theorem dX10_end_20 : decode prog_1_method_3_code 20 = .ok (.isub, 1) := by decide +kernel
theorem dX10_end_21 : decode prog_1_method_3_code 21 = .ok (.if_icmp .ge 5, 3) := by decide +kernel
theorem dX10_end_24 : decode prog_1_method_3_code 24 = .ok (.iconst (-1), 1) := by decide +kernel
theorem dX10_end_25 : decode prog_1_method_3_code 25 = .ok (.ireturn, 1) := by decide +kernel
theorem dX10_end_26 : decode prog_1_method_3_code 26 = .ok (.aload_n 0, 1) := by decide +kernel
theorem dX10_end_27 : decode prog_1_method_3_code 27 = .ok (.getfield 10, 3) := by decide +kernel
theorem dX10_end_30 : decode prog_1_method_3_code 30 = .ok (.dup, 1) := by decide +kernel
theorem dX10_end_31 : decode prog_1_method_3_code 31 = .ok (.getfield 73, 3) := by decide +kernel
theorem dX10_end_34 : decode prog_1_method_3_code 34 = .ok (.bipush 40, 2) := by decide +kernel
theorem dX10_end_36 : decode prog_1_method_3_code 36 = .ok (.iload_n 1, 1) := by decide +kernel
theorem dX10_end_37 : decode prog_1_method_3_code 37 = .ok (.isub, 1) := by decide +kernel
theorem dX10_end_38 : decode prog_1_method_3_code 38 = .ok (.isub, 1) := by decide +kernel
theorem dX10_end_39 : decode prog_1_method_3_code 39 = .ok (.putfield 73, 3) := by decide +kernel
theorem dX10_end_42 : decode prog_1_method_3_code 42 = .ok (.aload_n 0, 1) := by decide +kernel
theorem dX10_end_43 : decode prog_1_method_3_code 43 = .ok (.getfield 10, 3) := by decide +kernel
theorem dX10_end_46 : decode prog_1_method_3_code 46 = .ok (.getfield 73, 3) := by decide +kernel
theorem dX10_end_49 : decode prog_1_method_3_code 49 = .ok (.ireturn, 1) := by decide +kernel
theorem dX10_run_0 : decode prog_1_method_4_code 0 = .ok (.aload_n 0, 1) := by decide +kernel
theorem dX10_run_1 : decode prog_1_method_4_code 1 = .ok (.getfield 26, 3) := by decide +kernel
theorem dX10_run_4 : decode prog_1_method_4_code 4 = .ok (.getfield 80, 3) := by decide +kernel
theorem dX10_run_7 : decode prog_1_method_4_code 7 = .ok (.ifCond .eq 5, 3) := by decide +kernel
theorem dX10_run_12 : decode prog_1_method_4_code 12 = .ok (.aload_n 0, 1) := by decide +kernel
theorem dX10_run_13 : decode prog_1_method_4_code 13 = .ok (.iconst 0, 1) := by decide +kernel
theorem dX10_run_14 : decode prog_1_method_4_code 14 = .ok (.putfield 63, 3) := by decide +kernel
theorem dX10_run_17 : decode prog_1_method_4_code 17 = .ok (.aload_n 0, 1) := by decide +kernel
theorem dX10_run_18 : decode prog_1_method_4_code 18 = .ok (.iconst (-1), 1) := by decide +kernel
theorem dX10_run_19 : decode prog_1_method_4_code 19 = .ok (.putfield 70, 3) := by decide +kernel
theorem dX10_run_22 : decode prog_1_method_4_code 22 = .ok (.iconst 0, 1) := by decide +kernel
theorem dX10_run_23 : decode prog_1_method_4_code 23 = .ok (.istore_n 1, 1) := by decide +kernel
theorem dX10_run_24 : decode prog_1_method_4_code 24 = .ok (.aload_n 0, 1) := by decide +kernel
theorem dX10_run_25 : decode prog_1_method_4_code 25 = .ok (.getfield 10, 3) := by decide +kernel
theorem dX10_run_28 : decode prog_1_method_4_code 28 = .ok (.invokevirtual 84, 3) := by decide +kernel
theorem dX10_run_31 : decode prog_1_method_4_code 31 = .ok (.iload_n 1, 1) := by decide +kernel
theorem dX10_run_32 : decode prog_1_method_4_code 32 = .ok (.sipush 4000, 3) := by decide +kernel
theorem dX10_run_35 : decode prog_1_method_4_code 35 = .ok (.if_icmp .ge 219, 3) := by decide +kernel
theorem dX10_run_38 : decode prog_1_method_4_code 38 = .ok (.aload_n 0, 1) := by decide +kernel
theorem dX10_run_39 : decode prog_1_method_4_code 39 = .ok (.getfield 10, 3) := by decide +kernel
theorem dX10_run_42 : decode prog_1_method_4_code 42 = .ok (.getfield 87, 3) := by decide +kernel
theorem dX10_run_45 : decode prog_1_method_4_code 45 = .ok (.ifCond .eq 209, 3) := by decide +kernel
theorem dX10_run_254 : decode prog_1_method_4_code 254 = .ok (.aload_n 0, 1) := by decide +kernel
theorem dX10_run_255 : decode prog_1_method_4_code 255 = .ok (.getfield 10, 3) := by decide +kernel
theorem dX10_run_258 : decode prog_1_method_4_code 258 = .ok (.invokevirtual 133, 3) := by decide +kernel
theorem dX10_run_261 : decode prog_1_method_4_code 261 = .ok (.iload_n 1, 1) := by decide +kernel
theorem dX10_run_262 : decode prog_1_method_4_code 262 = .ok (.ireturn, 1) := by decide +kernel
theorem dX10_wrong_0 : decode prog_1_method_5_code 0 = .ok (.aload_n 0, 1) := by decide +kernel
theorem dX10_wrong_1 : decode prog_1_method_5_code 1 = .ok (.getfield 70, 3) := by decide +kernel
theorem dX10_wrong_4 : decode prog_1_method_5_code 4 = .ok (.ireturn, 1) := by decide +kernel
theorem dX10_outputs_0 : decode prog_1_method_6_code 0 = .ok (.aload_n 0, 1) := by decide +kernel
theorem dX10_outputs_1 : decode prog_1_method_6_code 1 = .ok (.getfield 63, 3) := by decide +kernel
theorem dX10_outputs_4 : decode prog_1_method_6_code 4 = .ok (.ireturn, 1) := by decide +kernel
theorem dX10_out_0 : decode prog_1_method_7_code 0 = .ok (.iload_n 1, 1) := by decide +kernel
theorem dX10_out_1 : decode prog_1_method_7_code 1 = .ok (.ifCond .lt 20, 3) := by decide +kernel
theorem dX10_out_4 : decode prog_1_method_7_code 4 = .ok (.iload_n 1, 1) := by decide +kernel
theorem dX10_out_5 : decode prog_1_method_7_code 5 = .ok (.aload_n 0, 1) := by decide +kernel
theorem dX10_out_6 : decode prog_1_method_7_code 6 = .ok (.getfield 63, 3) := by decide +kernel
theorem dX10_out_9 : decode prog_1_method_7_code 9 = .ok (.if_icmp .ge 12, 3) := by decide +kernel
theorem dX10_out_12 : decode prog_1_method_7_code 12 = .ok (.aload_n 0, 1) := by decide +kernel
theorem dX10_out_13 : decode prog_1_method_7_code 13 = .ok (.getfield 60, 3) := by decide +kernel
theorem dX10_out_16 : decode prog_1_method_7_code 16 = .ok (.iload_n 1, 1) := by decide +kernel
theorem dX10_out_17 : decode prog_1_method_7_code 17 = .ok (.iaload, 1) := by decide +kernel
theorem dX10_out_18 : decode prog_1_method_7_code 18 = .ok (.goto 4, 3) := by decide +kernel
theorem dX10_out_21 : decode prog_1_method_7_code 21 = .ok (.iconst 0, 1) := by decide +kernel
theorem dX10_out_22 : decode prog_1_method_7_code 22 = .ok (.ireturn, 1) := by decide +kernel
theorem dX10_crash_0 : decode prog_1_method_8_code 0 = .ok (.aload_n 0, 1) := by decide +kernel
theorem dX10_crash_1 : decode prog_1_method_8_code 1 = .ok (.getfield 26, 3) := by decide +kernel
theorem dX10_crash_4 : decode prog_1_method_8_code 4 = .ok (.getfield 80, 3) := by decide +kernel
theorem dX10_crash_7 : decode prog_1_method_8_code 7 = .ok (.ifCond .ne 35, 3) := by decide +kernel
theorem dX10_crash_10 : decode prog_1_method_8_code 10 = .ok (.iload_n 1, 1) := by decide +kernel
theorem dX10_crash_11 : decode prog_1_method_8_code 11 = .ok (.ifCond .lt 31, 3) := by decide +kernel
theorem dX10_crash_14 : decode prog_1_method_8_code 14 = .ok (.iload_n 1, 1) := by decide +kernel
theorem dX10_crash_15 : decode prog_1_method_8_code 15 = .ok (.iconst 1, 1) := by decide +kernel
theorem dX10_crash_16 : decode prog_1_method_8_code 16 = .ok (.if_icmp .gt 26, 3) := by decide +kernel
theorem dX10_crash_19 : decode prog_1_method_8_code 19 = .ok (.iload_n 2, 1) := by decide +kernel
theorem dX10_crash_20 : decode prog_1_method_8_code 20 = .ok (.iconst 1, 1) := by decide +kernel
theorem dX10_crash_21 : decode prog_1_method_8_code 21 = .ok (.if_icmp .lt 21, 3) := by decide +kernel
theorem dX10_crash_24 : decode prog_1_method_8_code 24 = .ok (.iload_n 2, 1) := by decide +kernel
theorem dX10_crash_25 : decode prog_1_method_8_code 25 = .ok (.sipush 1000, 3) := by decide +kernel
theorem dX10_crash_28 : decode prog_1_method_8_code 28 = .ok (.if_icmp .gt 14, 3) := by decide +kernel
theorem dX10_crash_31 : decode prog_1_method_8_code 31 = .ok (.iload_n 3, 1) := by decide +kernel
theorem dX10_crash_32 : decode prog_1_method_8_code 32 = .ok (.ifCond .lt 10, 3) := by decide +kernel
theorem dX10_crash_35 : decode prog_1_method_8_code 35 = .ok (.iload_n 3, 1) := by decide +kernel
theorem dX10_crash_36 : decode prog_1_method_8_code 36 = .ok (.sipush 200, 3) := by decide +kernel
theorem dX10_crash_39 : decode prog_1_method_8_code 39 = .ok (.if_icmp .le 5, 3) := by decide +kernel
theorem dX10_crash_42 : decode prog_1_method_8_code 42 = .ok (.iconst 0, 1) := by decide +kernel
theorem dX10_crash_43 : decode prog_1_method_8_code 43 = .ok (.ireturn, 1) := by decide +kernel
theorem dX10_crash_44 : decode prog_1_method_8_code 44 = .ok (.aload_n 0, 1) := by decide +kernel
theorem dX10_crash_45 : decode prog_1_method_8_code 45 = .ok (.getfield 26, 3) := by decide +kernel
theorem dX10_crash_48 : decode prog_1_method_8_code 48 = .ok (.iload_n 1, 1) := by decide +kernel
theorem dX10_crash_49 : decode prog_1_method_8_code 49 = .ok (.putfield 136, 3) := by decide +kernel
theorem dX10_crash_52 : decode prog_1_method_8_code 52 = .ok (.aload_n 0, 1) := by decide +kernel
theorem dX10_crash_53 : decode prog_1_method_8_code 53 = .ok (.getfield 26, 3) := by decide +kernel
theorem dX10_crash_56 : decode prog_1_method_8_code 56 = .ok (.iload_n 2, 1) := by decide +kernel
theorem dX10_crash_57 : decode prog_1_method_8_code 57 = .ok (.putfield 139, 3) := by decide +kernel
theorem dX10_crash_60 : decode prog_1_method_8_code 60 = .ok (.iconst 1, 1) := by decide +kernel
theorem dX10_crash_61 : decode prog_1_method_8_code 61 = .ok (.ireturn, 1) := by decide +kernel
theorem dX10_recover_0 : decode prog_1_method_9_code 0 = .ok (.aload_n 0, 1) := by decide +kernel
theorem dX10_recover_1 : decode prog_1_method_9_code 1 = .ok (.getfield 26, 3) := by decide +kernel
theorem dX10_recover_4 : decode prog_1_method_9_code 4 = .ok (.invokevirtual 142, 3) := by decide +kernel
theorem dX10_recover_7 : decode prog_1_method_9_code 7 = .ok (.aload_n 0, 1) := by decide +kernel
theorem dX10_recover_8 : decode prog_1_method_9_code 8 = .ok (.getfield 26, 3) := by decide +kernel
theorem dX10_recover_11 : decode prog_1_method_9_code 11 = .ok (.getfield 145, 3) := by decide +kernel
theorem dX10_recover_14 : decode prog_1_method_9_code 14 = .ok (.getfield 149, 3) := by decide +kernel
theorem dX10_recover_17 : decode prog_1_method_9_code 17 = .ok (.ireturn, 1) := by decide +kernel
theorem dX10_isDown_0 : decode prog_1_method_10_code 0 = .ok (.aload_n 0, 1) := by decide +kernel
theorem dX10_isDown_1 : decode prog_1_method_10_code 1 = .ok (.getfield 26, 3) := by decide +kernel
theorem dX10_isDown_4 : decode prog_1_method_10_code 4 = .ok (.getfield 80, 3) := by decide +kernel
theorem dX10_isDown_7 : decode prog_1_method_10_code 7 = .ok (.ireturn, 1) := by decide +kernel
theorem dX10_isOpen_0 : decode prog_1_method_11_code 0 = .ok (.aload_n 0, 1) := by decide +kernel
theorem dX10_isOpen_1 : decode prog_1_method_11_code 1 = .ok (.getfield 26, 3) := by decide +kernel
theorem dX10_isOpen_4 : decode prog_1_method_11_code 4 = .ok (.getfield 154, 3) := by decide +kernel
theorem dX10_isOpen_7 : decode prog_1_method_11_code 7 = .ok (.ifCond .eq 17, 3) := by decide +kernel
theorem dX10_isOpen_10 : decode prog_1_method_11_code 10 = .ok (.aload_n 0, 1) := by decide +kernel
theorem dX10_isOpen_11 : decode prog_1_method_11_code 11 = .ok (.getfield 26, 3) := by decide +kernel
theorem dX10_isOpen_14 : decode prog_1_method_11_code 14 = .ok (.getfield 80, 3) := by decide +kernel
theorem dX10_isOpen_17 : decode prog_1_method_11_code 17 = .ok (.ifCond .ne 7, 3) := by decide +kernel
theorem dX10_isOpen_20 : decode prog_1_method_11_code 20 = .ok (.iconst 1, 1) := by decide +kernel
theorem dX10_isOpen_21 : decode prog_1_method_11_code 21 = .ok (.goto 4, 3) := by decide +kernel
theorem dX10_isOpen_24 : decode prog_1_method_11_code 24 = .ok (.iconst 0, 1) := by decide +kernel
theorem dX10_isOpen_25 : decode prog_1_method_11_code 25 = .ok (.ireturn, 1) := by decide +kernel
theorem dX10_live_0 : decode prog_1_method_12_code 0 = .ok (.aload_n 0, 1) := by decide +kernel
theorem dX10_live_1 : decode prog_1_method_12_code 1 = .ok (.getfield 26, 3) := by decide +kernel
theorem dX10_live_4 : decode prog_1_method_12_code 4 = .ok (.getfield 80, 3) := by decide +kernel
theorem dX10_live_7 : decode prog_1_method_12_code 7 = .ok (.ifCond .eq 7, 3) := by decide +kernel
theorem dX10_live_10 : decode prog_1_method_12_code 10 = .ok (.iconst (-1), 1) := by decide +kernel
theorem dX10_live_11 : decode prog_1_method_12_code 11 = .ok (.goto 13, 3) := by decide +kernel
theorem dX10_live_14 : decode prog_1_method_12_code 14 = .ok (.aload_n 0, 1) := by decide +kernel
theorem dX10_live_15 : decode prog_1_method_12_code 15 = .ok (.getfield 26, 3) := by decide +kernel
theorem dX10_live_18 : decode prog_1_method_12_code 18 = .ok (.getfield 145, 3) := by decide +kernel
theorem dX10_live_21 : decode prog_1_method_12_code 21 = .ok (.getfield 149, 3) := by decide +kernel
theorem dX10_live_24 : decode prog_1_method_12_code 24 = .ok (.ireturn, 1) := by decide +kernel
theorem dX10_idAt_0 : decode prog_1_method_13_code 0 = .ok (.aload_n 0, 1) := by decide +kernel
theorem dX10_idAt_1 : decode prog_1_method_13_code 1 = .ok (.getfield 26, 3) := by decide +kernel
theorem dX10_idAt_4 : decode prog_1_method_13_code 4 = .ok (.getfield 80, 3) := by decide +kernel
theorem dX10_idAt_7 : decode prog_1_method_13_code 7 = .ok (.ifCond .ne 21, 3) := by decide +kernel
theorem dX10_idAt_10 : decode prog_1_method_13_code 10 = .ok (.iload_n 1, 1) := by decide +kernel
theorem dX10_idAt_11 : decode prog_1_method_13_code 11 = .ok (.ifCond .lt 17, 3) := by decide +kernel
theorem dX10_idAt_14 : decode prog_1_method_13_code 14 = .ok (.iload_n 1, 1) := by decide +kernel
theorem dX10_idAt_15 : decode prog_1_method_13_code 15 = .ok (.aload_n 0, 1) := by decide +kernel
theorem dX10_idAt_16 : decode prog_1_method_13_code 16 = .ok (.getfield 26, 3) := by decide +kernel
theorem dX10_idAt_19 : decode prog_1_method_13_code 19 = .ok (.getfield 145, 3) := by decide +kernel
theorem dX10_idAt_22 : decode prog_1_method_13_code 22 = .ok (.getfield 149, 3) := by decide +kernel
theorem dX10_idAt_25 : decode prog_1_method_13_code 25 = .ok (.if_icmp .lt 5, 3) := by decide +kernel
theorem dX10_idAt_28 : decode prog_1_method_13_code 28 = .ok (.iconst (-1), 1) := by decide +kernel
theorem dX10_idAt_29 : decode prog_1_method_13_code 29 = .ok (.ireturn, 1) := by decide +kernel
theorem dX10_idAt_30 : decode prog_1_method_13_code 30 = .ok (.aload_n 0, 1) := by decide +kernel
theorem dX10_idAt_31 : decode prog_1_method_13_code 31 = .ok (.getfield 26, 3) := by decide +kernel
theorem dX10_idAt_34 : decode prog_1_method_13_code 34 = .ok (.getfield 145, 3) := by decide +kernel
theorem dX10_idAt_37 : decode prog_1_method_13_code 37 = .ok (.getfield 157, 3) := by decide +kernel
theorem dX10_idAt_40 : decode prog_1_method_13_code 40 = .ok (.iload_n 1, 1) := by decide +kernel
theorem dX10_idAt_41 : decode prog_1_method_13_code 41 = .ok (.iaload, 1) := by decide +kernel
theorem dX10_idAt_42 : decode prog_1_method_13_code 42 = .ok (.ireturn, 1) := by decide +kernel
theorem dX10_kindOf_0 : decode prog_1_method_14_code 0 = .ok (.aload_n 0, 1) := by decide +kernel
theorem dX10_kindOf_1 : decode prog_1_method_14_code 1 = .ok (.iload_n 1, 1) := by decide +kernel
theorem dX10_kindOf_2 : decode prog_1_method_14_code 2 = .ok (.invokevirtual 160, 3) := by decide +kernel
theorem dX10_kindOf_5 : decode prog_1_method_14_code 5 = .ok (.astore_n 2, 1) := by decide +kernel
theorem dX10_kindOf_6 : decode prog_1_method_14_code 6 = .ok (.aload_n 2, 1) := by decide +kernel
theorem dX10_kindOf_7 : decode prog_1_method_14_code 7 = .ok (.ifnonnull 7, 3) := by decide +kernel
theorem dX10_kindOf_10 : decode prog_1_method_14_code 10 = .ok (.iconst (-1), 1) := by decide +kernel
theorem dX10_kindOf_11 : decode prog_1_method_14_code 11 = .ok (.goto 7, 3) := by decide +kernel
theorem dX10_kindOf_14 : decode prog_1_method_14_code 14 = .ok (.aload_n 2, 1) := by decide +kernel
theorem dX10_kindOf_15 : decode prog_1_method_14_code 15 = .ok (.getfield 164, 3) := by decide +kernel
theorem dX10_kindOf_18 : decode prog_1_method_14_code 18 = .ok (.ireturn, 1) := by decide +kernel
theorem dX10_places_0 : decode prog_1_method_15_code 0 = .ok (.aload_n 0, 1) := by decide +kernel
theorem dX10_places_1 : decode prog_1_method_15_code 1 = .ok (.iload_n 1, 1) := by decide +kernel
theorem dX10_places_2 : decode prog_1_method_15_code 2 = .ok (.invokevirtual 160, 3) := by decide +kernel
theorem dX10_places_5 : decode prog_1_method_15_code 5 = .ok (.astore_n 2, 1) := by decide +kernel
theorem dX10_places_6 : decode prog_1_method_15_code 6 = .ok (.aload_n 2, 1) := by decide +kernel
theorem dX10_places_7 : decode prog_1_method_15_code 7 = .ok (.ifnonnull 7, 3) := by decide +kernel
theorem dX10_places_10 : decode prog_1_method_15_code 10 = .ok (.iconst (-1), 1) := by decide +kernel
theorem dX10_places_11 : decode prog_1_method_15_code 11 = .ok (.goto 7, 3) := by decide +kernel
theorem dX10_places_14 : decode prog_1_method_15_code 14 = .ok (.aload_n 2, 1) := by decide +kernel
theorem dX10_places_15 : decode prog_1_method_15_code 15 = .ok (.getfield 169, 3) := by decide +kernel
theorem dX10_places_18 : decode prog_1_method_15_code 18 = .ok (.ireturn, 1) := by decide +kernel
theorem dX10_rings_0 : decode prog_1_method_16_code 0 = .ok (.aload_n 0, 1) := by decide +kernel
theorem dX10_rings_1 : decode prog_1_method_16_code 1 = .ok (.iload_n 1, 1) := by decide +kernel
theorem dX10_rings_2 : decode prog_1_method_16_code 2 = .ok (.invokevirtual 160, 3) := by decide +kernel
theorem dX10_rings_5 : decode prog_1_method_16_code 5 = .ok (.astore_n 2, 1) := by decide +kernel
theorem dX10_rings_6 : decode prog_1_method_16_code 6 = .ok (.aload_n 2, 1) := by decide +kernel
theorem dX10_rings_7 : decode prog_1_method_16_code 7 = .ok (.ifnonnull 7, 3) := by decide +kernel
theorem dX10_rings_10 : decode prog_1_method_16_code 10 = .ok (.iconst (-1), 1) := by decide +kernel
theorem dX10_rings_11 : decode prog_1_method_16_code 11 = .ok (.goto 7, 3) := by decide +kernel
theorem dX10_rings_14 : decode prog_1_method_16_code 14 = .ok (.aload_n 2, 1) := by decide +kernel
theorem dX10_rings_15 : decode prog_1_method_16_code 15 = .ok (.getfield 170, 3) := by decide +kernel
theorem dX10_rings_18 : decode prog_1_method_16_code 18 = .ok (.ireturn, 1) := by decide +kernel
theorem dX10_at_0 : decode prog_1_method_17_code 0 = .ok (.aload_n 0, 1) := by decide +kernel
theorem dX10_at_1 : decode prog_1_method_17_code 1 = .ok (.iload_n 1, 1) := by decide +kernel
theorem dX10_at_2 : decode prog_1_method_17_code 2 = .ok (.invokevirtual 160, 3) := by decide +kernel
theorem dX10_at_5 : decode prog_1_method_17_code 5 = .ok (.astore 4, 2) := by decide +kernel
theorem dX10_at_7 : decode prog_1_method_17_code 7 = .ok (.aload 4, 2) := by decide +kernel
theorem dX10_at_9 : decode prog_1_method_17_code 9 = .ok (.ifnull 25, 3) := by decide +kernel
theorem dX10_at_34 : decode prog_1_method_17_code 34 = .ok (.iconst 0, 1) := by decide +kernel
theorem dX10_at_35 : decode prog_1_method_17_code 35 = .ok (.ireturn, 1) := by decide +kernel
theorem dX10_relate_0 : decode prog_1_method_18_code 0 = .ok (.aload_n 0, 1) := by decide +kernel
theorem dX10_relate_1 : decode prog_1_method_18_code 1 = .ok (.iload_n 2, 1) := by decide +kernel
theorem dX10_relate_2 : decode prog_1_method_18_code 2 = .ok (.invokevirtual 160, 3) := by decide +kernel
theorem dX10_relate_5 : decode prog_1_method_18_code 5 = .ok (.astore 4, 2) := by decide +kernel
theorem dX10_relate_7 : decode prog_1_method_18_code 7 = .ok (.aload_n 0, 1) := by decide +kernel
theorem dX10_relate_8 : decode prog_1_method_18_code 8 = .ok (.iload_n 3, 1) := by decide +kernel
theorem dX10_relate_9 : decode prog_1_method_18_code 9 = .ok (.invokevirtual 160, 3) := by decide +kernel
theorem dX10_relate_12 : decode prog_1_method_18_code 12 = .ok (.astore 5, 2) := by decide +kernel
theorem dX10_relate_14 : decode prog_1_method_18_code 14 = .ok (.aload 4, 2) := by decide +kernel
theorem dX10_relate_16 : decode prog_1_method_18_code 16 = .ok (.ifnull 17, 3) := by decide +kernel
theorem dX10_relate_33 : decode prog_1_method_18_code 33 = .ok (.iconst (-1), 1) := by decide +kernel
theorem dX10_relate_34 : decode prog_1_method_18_code 34 = .ok (.ireturn, 1) := by decide +kernel
theorem dX10_nearer_0 : decode prog_1_method_19_code 0 = .ok (.aload_n 0, 1) := by decide +kernel
theorem dX10_nearer_1 : decode prog_1_method_19_code 1 = .ok (.iload_n 1, 1) := by decide +kernel
theorem dX10_nearer_2 : decode prog_1_method_19_code 2 = .ok (.invokevirtual 160, 3) := by decide +kernel
theorem dX10_nearer_5 : decode prog_1_method_19_code 5 = .ok (.astore 5, 2) := by decide +kernel
theorem dX10_nearer_7 : decode prog_1_method_19_code 7 = .ok (.aload_n 0, 1) := by decide +kernel
theorem dX10_nearer_8 : decode prog_1_method_19_code 8 = .ok (.iload_n 2, 1) := by decide +kernel
theorem dX10_nearer_9 : decode prog_1_method_19_code 9 = .ok (.invokevirtual 160, 3) := by decide +kernel
theorem dX10_nearer_12 : decode prog_1_method_19_code 12 = .ok (.astore 6, 2) := by decide +kernel
theorem dX10_nearer_14 : decode prog_1_method_19_code 14 = .ok (.aload 5, 2) := by decide +kernel
theorem dX10_nearer_16 : decode prog_1_method_19_code 16 = .ok (.ifnull 25, 3) := by decide +kernel
end
section
theorem dX10_nearer_41 : decode prog_1_method_19_code 41 = .ok (.bipush (-2), 2) := by decide +kernel
theorem dX10_nearer_43 : decode prog_1_method_19_code 43 = .ok (.ireturn, 1) := by decide +kernel
theorem dX10_used_0 : decode prog_1_method_20_code 0 = .ok (.aload_n 0, 1) := by decide +kernel
theorem dX10_used_1 : decode prog_1_method_20_code 1 = .ok (.getfield 26, 3) := by decide +kernel
theorem dX10_used_4 : decode prog_1_method_20_code 4 = .ok (.getfield 80, 3) := by decide +kernel
theorem dX10_used_7 : decode prog_1_method_20_code 7 = .ok (.ifCond .eq 7, 3) := by decide +kernel
theorem dX10_used_10 : decode prog_1_method_20_code 10 = .ok (.iconst (-1), 1) := by decide +kernel
theorem dX10_used_11 : decode prog_1_method_20_code 11 = .ok (.goto 10, 3) := by decide +kernel
theorem dX10_used_14 : decode prog_1_method_20_code 14 = .ok (.aload_n 0, 1) := by decide +kernel
theorem dX10_used_15 : decode prog_1_method_20_code 15 = .ok (.getfield 26, 3) := by decide +kernel
theorem dX10_used_18 : decode prog_1_method_20_code 18 = .ok (.getfield 195, 3) := by decide +kernel
theorem dX10_used_21 : decode prog_1_method_20_code 21 = .ok (.ireturn, 1) := by decide +kernel
theorem dX10_saves_0 : decode prog_1_method_21_code 0 = .ok (.aload_n 0, 1) := by decide +kernel
theorem dX10_saves_1 : decode prog_1_method_21_code 1 = .ok (.getfield 26, 3) := by decide +kernel
theorem dX10_saves_4 : decode prog_1_method_21_code 4 = .ok (.getfield 198, 3) := by decide +kernel
theorem dX10_saves_7 : decode prog_1_method_21_code 7 = .ok (.ireturn, 1) := by decide +kernel
theorem dX10_flaws_0 : decode prog_1_method_22_code 0 = .ok (.aload_n 0, 1) := by decide +kernel
theorem dX10_flaws_1 : decode prog_1_method_22_code 1 = .ok (.getfield 26, 3) := by decide +kernel
theorem dX10_flaws_4 : decode prog_1_method_22_code 4 = .ok (.invokevirtual 201, 3) := by decide +kernel
theorem dX10_flaws_7 : decode prog_1_method_22_code 7 = .ok (.ireturn, 1) := by decide +kernel
theorem dX10_shapeOf_0 : decode prog_1_method_24_code 0 = .ok (.aload_n 0, 1) := by decide +kernel
theorem dX10_shapeOf_1 : decode prog_1_method_24_code 1 = .ok (.getfield 26, 3) := by decide +kernel
theorem dX10_shapeOf_4 : decode prog_1_method_24_code 4 = .ok (.getfield 80, 3) := by decide +kernel
theorem dX10_shapeOf_7 : decode prog_1_method_24_code 7 = .ok (.ifCond .eq 7, 3) := by decide +kernel
theorem dX10_shapeOf_10 : decode prog_1_method_24_code 10 = .ok (.aconst_null, 1) := by decide +kernel
theorem dX10_shapeOf_11 : decode prog_1_method_24_code 11 = .ok (.goto 14, 3) := by decide +kernel
theorem dX10_shapeOf_14 : decode prog_1_method_24_code 14 = .ok (.aload_n 0, 1) := by decide +kernel
theorem dX10_shapeOf_15 : decode prog_1_method_24_code 15 = .ok (.getfield 26, 3) := by decide +kernel
theorem dX10_shapeOf_18 : decode prog_1_method_24_code 18 = .ok (.getfield 145, 3) := by decide +kernel
theorem dX10_shapeOf_21 : decode prog_1_method_24_code 21 = .ok (.iload_n 1, 1) := by decide +kernel
theorem dX10_shapeOf_22 : decode prog_1_method_24_code 22 = .ok (.invokevirtual 208, 3) := by decide +kernel
theorem dX10_shapeOf_25 : decode prog_1_method_24_code 25 = .ok (.areturn, 1) := by decide +kernel
end
section
theorem dX11_init_0 : decode prog_14_method_1_code 0 = .ok (.aload_n 0, 1) := by decide +kernel
theorem dX11_init_1 : decode prog_14_method_1_code 1 = .ok (.invokespecial 3, 3) := by decide +kernel
theorem dX11_init_4 : decode prog_14_method_1_code 4 = .ok (.aload_n 0, 1) := by decide +kernel
theorem dX11_init_5 : decode prog_14_method_1_code 5 = .ok (.bipush 8, 2) := by decide +kernel
theorem dX11_init_7 : decode prog_14_method_1_code 7 = .ok (.newarray .long, 2) := by decide +kernel
theorem dX11_init_9 : decode prog_14_method_1_code 9 = .ok (.putfield 9, 3) := by decide +kernel
theorem dX11_init_12 : decode prog_14_method_1_code 12 = .ok (.aload_n 0, 1) := by decide +kernel
theorem dX11_init_13 : decode prog_14_method_1_code 13 = .ok (.bipush 8, 2) := by decide +kernel
theorem dX11_init_15 : decode prog_14_method_1_code 15 = .ok (.newarray .long, 2) := by decide +kernel
theorem dX11_init_17 : decode prog_14_method_1_code 17 = .ok (.putfield 15, 3) := by decide +kernel
theorem dX11_init_20 : decode prog_14_method_1_code 20 = .ok (.return_, 1) := by decide +kernel
theorem dX12_init_0 : decode prog_15_method_1_code 0 = .ok (.aload_n 0, 1) := by decide +kernel
theorem dX12_init_1 : decode prog_15_method_1_code 1 = .ok (.invokespecial 3, 3) := by decide +kernel
theorem dX12_init_4 : decode prog_15_method_1_code 4 = .ok (.aload_n 0, 1) := by decide +kernel
theorem dX12_init_5 : decode prog_15_method_1_code 5 = .ok (.bipush 8, 2) := by decide +kernel
theorem dX12_init_7 : decode prog_15_method_1_code 7 = .ok (.newarray .int, 2) := by decide +kernel
theorem dX12_init_9 : decode prog_15_method_1_code 9 = .ok (.putfield 9, 3) := by decide +kernel
theorem dX12_init_12 : decode prog_15_method_1_code 12 = .ok (.aload_n 0, 1) := by decide +kernel
theorem dX12_init_13 : decode prog_15_method_1_code 13 = .ok (.bipush 40, 2) := by decide +kernel
theorem dX12_init_15 : decode prog_15_method_1_code 15 = .ok (.newarray .int, 2) := by decide +kernel
theorem dX12_init_17 : decode prog_15_method_1_code 17 = .ok (.putfield 15, 3) := by decide +kernel
theorem dX12_init_20 : decode prog_15_method_1_code 20 = .ok (.aload_n 0, 1) := by decide +kernel
theorem dX12_init_21 : decode prog_15_method_1_code 21 = .ok (.bipush 40, 2) := by decide +kernel
theorem dX12_init_23 : decode prog_15_method_1_code 23 = .ok (.newarray .int, 2) := by decide +kernel
theorem dX12_init_25 : decode prog_15_method_1_code 25 = .ok (.putfield 18, 3) := by decide +kernel
theorem dX12_init_28 : decode prog_15_method_1_code 28 = .ok (.return_, 1) := by decide +kernel
theorem dX13_init_0 : decode prog_16_method_1_code 0 = .ok (.aload_n 0, 1) := by decide +kernel
theorem dX13_init_1 : decode prog_16_method_1_code 1 = .ok (.invokespecial 3, 3) := by decide +kernel
theorem dX13_init_4 : decode prog_16_method_1_code 4 = .ok (.aload_n 0, 1) := by decide +kernel
theorem dX13_init_5 : decode prog_16_method_1_code 5 = .ok (.sipush 200, 3) := by decide +kernel
theorem dX13_init_8 : decode prog_16_method_1_code 8 = .ok (.anewarray 9, 3) := by decide +kernel
theorem dX13_init_11 : decode prog_16_method_1_code 11 = .ok (.putfield 11, 3) := by decide +kernel
theorem dX13_init_14 : decode prog_16_method_1_code 14 = .ok (.iconst 0, 1) := by decide +kernel
theorem dX13_init_15 : decode prog_16_method_1_code 15 = .ok (.istore_n 1, 1) := by decide +kernel
theorem dX13_init_16 : decode prog_16_method_1_code 16 = .ok (.iload_n 1, 1) := by decide +kernel
theorem dX13_init_17 : decode prog_16_method_1_code 17 = .ok (.sipush 200, 3) := by decide +kernel
theorem dX13_init_20 : decode prog_16_method_1_code 20 = .ok (.if_icmp .ge 22, 3) := by decide +kernel
theorem dX13_init_23 : decode prog_16_method_1_code 23 = .ok (.aload_n 0, 1) := by decide +kernel
theorem dX13_init_24 : decode prog_16_method_1_code 24 = .ok (.getfield 11, 3) := by decide +kernel
theorem dX13_init_27 : decode prog_16_method_1_code 27 = .ok (.iload_n 1, 1) := by decide +kernel
theorem dX13_init_28 : decode prog_16_method_1_code 28 = .ok (.new 9, 3) := by decide +kernel
theorem dX13_init_31 : decode prog_16_method_1_code 31 = .ok (.dup, 1) := by decide +kernel
theorem dX13_init_32 : decode prog_16_method_1_code 32 = .ok (.invokespecial 17, 3) := by decide +kernel
theorem dX13_init_35 : decode prog_16_method_1_code 35 = .ok (.aastore, 1) := by decide +kernel
theorem dX13_init_36 : decode prog_16_method_1_code 36 = .ok (.iinc 1 1, 3) := by decide +kernel
theorem dX13_init_39 : decode prog_16_method_1_code 39 = .ok (.goto (-23), 3) := by decide +kernel
theorem dX13_init_42 : decode prog_16_method_1_code 42 = .ok (.return_, 1) := by decide +kernel
theorem dX13_take_0 : decode prog_16_method_2_code 0 = .ok (.aload_n 0, 1) := by decide +kernel
theorem dX13_take_1 : decode prog_16_method_2_code 1 = .ok (.aload_n 1, 1) := by decide +kernel
theorem dX13_take_2 : decode prog_16_method_2_code 2 = .ok (.getfield 18, 3) := by decide +kernel
theorem dX13_take_5 : decode prog_16_method_2_code 5 = .ok (.putfield 18, 3) := by decide +kernel
theorem dX13_take_8 : decode prog_16_method_2_code 8 = .ok (.iconst 0, 1) := by decide +kernel
theorem dX13_take_9 : decode prog_16_method_2_code 9 = .ok (.istore_n 2, 1) := by decide +kernel
theorem dX13_take_10 : decode prog_16_method_2_code 10 = .ok (.iload_n 2, 1) := by decide +kernel
theorem dX13_take_11 : decode prog_16_method_2_code 11 = .ok (.aload_n 0, 1) := by decide +kernel
theorem dX13_take_12 : decode prog_16_method_2_code 12 = .ok (.getfield 18, 3) := by decide +kernel
theorem dX13_take_15 : decode prog_16_method_2_code 15 = .ok (.if_icmp .ge 24, 3) := by decide +kernel
theorem dX13_take_39 : decode prog_16_method_2_code 39 = .ok (.return_, 1) := by decide +kernel
theorem dX13_find_0 : decode prog_16_method_3_code 0 = .ok (.iconst 0, 1) := by decide +kernel
theorem dX13_find_1 : decode prog_16_method_3_code 1 = .ok (.istore_n 2, 1) := by decide +kernel
theorem dX13_find_2 : decode prog_16_method_3_code 2 = .ok (.iload_n 2, 1) := by decide +kernel
theorem dX13_find_3 : decode prog_16_method_3_code 3 = .ok (.aload_n 0, 1) := by decide +kernel
theorem dX13_find_4 : decode prog_16_method_3_code 4 = .ok (.getfield 18, 3) := by decide +kernel
theorem dX13_find_7 : decode prog_16_method_3_code 7 = .ok (.if_icmp .ge 24, 3) := by decide +kernel
theorem dX13_find_31 : decode prog_16_method_3_code 31 = .ok (.iconst (-1), 1) := by decide +kernel
theorem dX13_find_32 : decode prog_16_method_3_code 32 = .ok (.ireturn, 1) := by decide +kernel
end
section
theorem dX14_byteAt_0 : decode prog_13_method_52_code 0 = .ok (.iload_n 1, 1) := by decide +kernel
theorem dX14_byteAt_1 : decode prog_13_method_52_code 1 = .ok (.aload_n 0, 1) := by decide +kernel
theorem dX14_byteAt_2 : decode prog_13_method_52_code 2 = .ok (.getfield 373, 3) := by decide +kernel
theorem dX14_byteAt_5 : decode prog_13_method_52_code 5 = .ok (.if_icmp .ge 12, 3) := by decide +kernel
theorem dX14_byteAt_17 : decode prog_13_method_52_code 17 = .ok (.iconst (-1), 1) := by decide +kernel
theorem dX14_byteAt_18 : decode prog_13_method_52_code 18 = .ok (.ireturn, 1) := by decide +kernel
theorem dX14_next_0 : decode prog_13_method_55_code 0 = .ok (.aload_n 0, 1) := by decide +kernel
theorem dX14_next_1 : decode prog_13_method_55_code 1 = .ok (.aload_n 0, 1) := by decide +kernel
theorem dX14_next_2 : decode prog_13_method_55_code 2 = .ok (.getfield 379, 3) := by decide +kernel
theorem dX14_next_5 : decode prog_13_method_55_code 5 = .ok (.invokevirtual 382, 3) := by decide +kernel
theorem dX14_next_8 : decode prog_13_method_55_code 8 = .ok (.bipush 32, 2) := by decide +kernel
theorem dX14_next_10 : decode prog_13_method_55_code 10 = .ok (.if_icmp .eq 16, 3) := by decide +kernel
theorem dX14_next_13 : decode prog_13_method_55_code 13 = .ok (.aload_n 0, 1) := by decide +kernel
theorem dX14_next_14 : decode prog_13_method_55_code 14 = .ok (.aload_n 0, 1) := by decide +kernel
theorem dX14_next_15 : decode prog_13_method_55_code 15 = .ok (.getfield 379, 3) := by decide +kernel
theorem dX14_next_18 : decode prog_13_method_55_code 18 = .ok (.invokevirtual 382, 3) := by decide +kernel
theorem dX14_next_21 : decode prog_13_method_55_code 21 = .ok (.bipush 10, 2) := by decide +kernel
theorem dX14_next_23 : decode prog_13_method_55_code 23 = .ok (.if_icmp .ne 16, 3) := by decide +kernel
theorem dX14_next_39 : decode prog_13_method_55_code 39 = .ok (.aload_n 0, 1) := by decide +kernel
theorem dX14_next_40 : decode prog_13_method_55_code 40 = .ok (.aload_n 0, 1) := by decide +kernel
theorem dX14_next_41 : decode prog_13_method_55_code 41 = .ok (.getfield 379, 3) := by decide +kernel
theorem dX14_next_44 : decode prog_13_method_55_code 44 = .ok (.putfield 368, 3) := by decide +kernel
theorem dX14_next_47 : decode prog_13_method_55_code 47 = .ok (.aload_n 0, 1) := by decide +kernel
theorem dX14_next_48 : decode prog_13_method_55_code 48 = .ok (.aload_n 0, 1) := by decide +kernel
theorem dX14_next_49 : decode prog_13_method_55_code 49 = .ok (.getfield 379, 3) := by decide +kernel
theorem dX14_next_52 : decode prog_13_method_55_code 52 = .ok (.invokevirtual 382, 3) := by decide +kernel
theorem dX14_next_55 : decode prog_13_method_55_code 55 = .ok (.istore_n 1, 1) := by decide +kernel
theorem dX14_next_56 : decode prog_13_method_55_code 56 = .ok (.iload_n 1, 1) := by decide +kernel
theorem dX14_next_57 : decode prog_13_method_55_code 57 = .ok (.ifCond .ge 11, 3) := by decide +kernel
theorem dX14_next_60 : decode prog_13_method_55_code 60 = .ok (.aload_n 0, 1) := by decide +kernel
theorem dX14_next_61 : decode prog_13_method_55_code 61 = .ok (.iconst 0, 1) := by decide +kernel
theorem dX14_next_62 : decode prog_13_method_55_code 62 = .ok (.putfield 385, 3) := by decide +kernel
theorem dX14_next_65 : decode prog_13_method_55_code 65 = .ok (.goto 132, 3) := by decide +kernel
theorem dX14_next_197 : decode prog_13_method_55_code 197 = .ok (.return_, 1) := by decide +kernel
theorem dX14_init_0 : decode prog_13_method_65_code 0 = .ok (.aload_n 0, 1) := by decide +kernel
theorem dX14_init_1 : decode prog_13_method_65_code 1 = .ok (.invokespecial 457, 3) := by decide +kernel
theorem dX14_init_4 : decode prog_13_method_65_code 4 = .ok (.aload_n 0, 1) := by decide +kernel
theorem dX14_init_5 : decode prog_13_method_65_code 5 = .ok (.bipush 8, 2) := by decide +kernel
theorem dX14_init_7 : decode prog_13_method_65_code 7 = .ok (.newarray .long, 2) := by decide +kernel
theorem dX14_init_9 : decode prog_13_method_65_code 9 = .ok (.putfield 5, 3) := by decide +kernel
theorem dX14_init_12 : decode prog_13_method_65_code 12 = .ok (.aload_n 0, 1) := by decide +kernel
theorem dX14_init_13 : decode prog_13_method_65_code 13 = .ok (.bipush 8, 2) := by decide +kernel
theorem dX14_init_15 : decode prog_13_method_65_code 15 = .ok (.newarray .long, 2) := by decide +kernel
theorem dX14_init_17 : decode prog_13_method_65_code 17 = .ok (.putfield 13, 3) := by decide +kernel
theorem dX14_init_20 : decode prog_13_method_65_code 20 = .ok (.aload_n 0, 1) := by decide +kernel
theorem dX14_init_21 : decode prog_13_method_65_code 21 = .ok (.bipush 8, 2) := by decide +kernel
theorem dX14_init_23 : decode prog_13_method_65_code 23 = .ok (.newarray .long, 2) := by decide +kernel
theorem dX14_init_25 : decode prog_13_method_65_code 25 = .ok (.putfield 16, 3) := by decide +kernel
theorem dX14_init_28 : decode prog_13_method_65_code 28 = .ok (.aload_n 0, 1) := by decide +kernel
theorem dX14_init_29 : decode prog_13_method_65_code 29 = .ok (.bipush 8, 2) := by decide +kernel
theorem dX14_init_31 : decode prog_13_method_65_code 31 = .ok (.newarray .long, 2) := by decide +kernel
theorem dX14_init_33 : decode prog_13_method_65_code 33 = .ok (.putfield 23, 3) := by decide +kernel
theorem dX14_init_36 : decode prog_13_method_65_code 36 = .ok (.aload_n 0, 1) := by decide +kernel
theorem dX14_init_37 : decode prog_13_method_65_code 37 = .ok (.bipush 82, 2) := by decide +kernel
theorem dX14_init_39 : decode prog_13_method_65_code 39 = .ok (.newarray .long, 2) := by decide +kernel
theorem dX14_init_41 : decode prog_13_method_65_code 41 = .ok (.putfield 111, 3) := by decide +kernel
theorem dX14_init_44 : decode prog_13_method_65_code 44 = .ok (.aload_n 0, 1) := by decide +kernel
theorem dX14_init_45 : decode prog_13_method_65_code 45 = .ok (.bipush 82, 2) := by decide +kernel
theorem dX14_init_47 : decode prog_13_method_65_code 47 = .ok (.newarray .long, 2) := by decide +kernel
theorem dX14_init_49 : decode prog_13_method_65_code 49 = .ok (.putfield 117, 3) := by decide +kernel
theorem dX14_init_52 : decode prog_13_method_65_code 52 = .ok (.aload_n 0, 1) := by decide +kernel
theorem dX14_init_53 : decode prog_13_method_65_code 53 = .ok (.bipush 8, 2) := by decide +kernel
theorem dX14_init_55 : decode prog_13_method_65_code 55 = .ok (.newarray .boolean, 2) := by decide +kernel
theorem dX14_init_57 : decode prog_13_method_65_code 57 = .ok (.putfield 156, 3) := by decide +kernel
theorem dX14_init_60 : decode prog_13_method_65_code 60 = .ok (.aload_n 0, 1) := by decide +kernel
theorem dX14_init_61 : decode prog_13_method_65_code 61 = .ok (.new 31, 3) := by decide +kernel
theorem dX14_init_64 : decode prog_13_method_65_code 64 = .ok (.dup, 1) := by decide +kernel
theorem dX14_init_65 : decode prog_13_method_65_code 65 = .ok (.invokespecial 462, 3) := by decide +kernel
theorem dX14_init_68 : decode prog_13_method_65_code 68 = .ok (.putfield 254, 3) := by decide +kernel
theorem dX14_init_71 : decode prog_13_method_65_code 71 = .ok (.aload_n 0, 1) := by decide +kernel
theorem dX14_init_72 : decode prog_13_method_65_code 72 = .ok (.new 31, 3) := by decide +kernel
theorem dX14_init_75 : decode prog_13_method_65_code 75 = .ok (.dup, 1) := by decide +kernel
theorem dX14_init_76 : decode prog_13_method_65_code 76 = .ok (.invokespecial 462, 3) := by decide +kernel
theorem dX14_init_79 : decode prog_13_method_65_code 79 = .ok (.putfield 262, 3) := by decide +kernel
theorem dX14_init_82 : decode prog_13_method_65_code 82 = .ok (.aload_n 0, 1) := by decide +kernel
theorem dX14_init_83 : decode prog_13_method_65_code 83 = .ok (.bipush 8, 2) := by decide +kernel
theorem dX14_init_85 : decode prog_13_method_65_code 85 = .ok (.newarray .int, 2) := by decide +kernel
theorem dX14_init_87 : decode prog_13_method_65_code 87 = .ok (.putfield 265, 3) := by decide +kernel
theorem dX14_init_90 : decode prog_13_method_65_code 90 = .ok (.aload_n 0, 1) := by decide +kernel
theorem dX14_init_91 : decode prog_13_method_65_code 91 = .ok (.new 289, 3) := by decide +kernel
theorem dX14_init_94 : decode prog_13_method_65_code 94 = .ok (.dup, 1) := by decide +kernel
theorem dX14_init_95 : decode prog_13_method_65_code 95 = .ok (.invokespecial 463, 3) := by decide +kernel
theorem dX14_init_98 : decode prog_13_method_65_code 98 = .ok (.putfield 296, 3) := by decide +kernel
theorem dX14_init_101 : decode prog_13_method_65_code 101 = .ok (.aload_n 0, 1) := by decide +kernel
theorem dX14_init_102 : decode prog_13_method_65_code 102 = .ok (.new 289, 3) := by decide +kernel
theorem dX14_init_105 : decode prog_13_method_65_code 105 = .ok (.dup, 1) := by decide +kernel
theorem dX14_init_106 : decode prog_13_method_65_code 106 = .ok (.invokespecial 463, 3) := by decide +kernel
theorem dX14_init_109 : decode prog_13_method_65_code 109 = .ok (.putfield 464, 3) := by decide +kernel
theorem dX14_init_112 : decode prog_13_method_65_code 112 = .ok (.aload_n 0, 1) := by decide +kernel
theorem dX14_init_113 : decode prog_13_method_65_code 113 = .ok (.new 289, 3) := by decide +kernel
theorem dX14_init_116 : decode prog_13_method_65_code 116 = .ok (.dup, 1) := by decide +kernel
theorem dX14_init_117 : decode prog_13_method_65_code 117 = .ok (.invokespecial 463, 3) := by decide +kernel
theorem dX14_init_120 : decode prog_13_method_65_code 120 = .ok (.putfield 467, 3) := by decide +kernel
theorem dX14_init_123 : decode prog_13_method_65_code 123 = .ok (.aload_n 0, 1) := by decide +kernel
theorem dX14_init_124 : decode prog_13_method_65_code 124 = .ok (.new 355, 3) := by decide +kernel
theorem dX14_init_127 : decode prog_13_method_65_code 127 = .ok (.dup, 1) := by decide +kernel
theorem dX14_init_128 : decode prog_13_method_65_code 128 = .ok (.invokespecial 470, 3) := by decide +kernel
theorem dX14_init_131 : decode prog_13_method_65_code 131 = .ok (.putfield 351, 3) := by decide +kernel
theorem dX14_init_134 : decode prog_13_method_65_code 134 = .ok (.aload_n 0, 1) := by decide +kernel
theorem dX14_init_135 : decode prog_13_method_65_code 135 = .ok (.new 355, 3) := by decide +kernel
theorem dX14_init_138 : decode prog_13_method_65_code 138 = .ok (.dup, 1) := by decide +kernel
theorem dX14_init_139 : decode prog_13_method_65_code 139 = .ok (.invokespecial 470, 3) := by decide +kernel
theorem dX14_init_142 : decode prog_13_method_65_code 142 = .ok (.putfield 347, 3) := by decide +kernel
theorem dX14_init_145 : decode prog_13_method_65_code 145 = .ok (.aload_n 0, 1) := by decide +kernel
theorem dX14_init_146 : decode prog_13_method_65_code 146 = .ok (.iconst (-1), 1) := by decide +kernel
theorem dX14_init_147 : decode prog_13_method_65_code 147 = .ok (.putfield 323, 3) := by decide +kernel
theorem dX14_init_150 : decode prog_13_method_65_code 150 = .ok (.aload_n 0, 1) := by decide +kernel
theorem dX14_init_151 : decode prog_13_method_65_code 151 = .ok (.sipush 4000, 3) := by decide +kernel
theorem dX14_init_154 : decode prog_13_method_65_code 154 = .ok (.newarray .int, 2) := by decide +kernel
theorem dX14_init_156 : decode prog_13_method_65_code 156 = .ok (.putfield 376, 3) := by decide +kernel
theorem dX14_init_159 : decode prog_13_method_65_code 159 = .ok (.aload_n 0, 1) := by decide +kernel
theorem dX14_init_160 : decode prog_13_method_65_code 160 = .ok (.iconst (-1), 1) := by decide +kernel
theorem dX14_init_161 : decode prog_13_method_65_code 161 = .ok (.putfield 370, 3) := by decide +kernel
theorem dX14_init_164 : decode prog_13_method_65_code 164 = .ok (.aload_n 0, 1) := by decide +kernel
theorem dX14_init_165 : decode prog_13_method_65_code 165 = .ok (.sipush 30000, 3) := by decide +kernel
theorem dX14_init_168 : decode prog_13_method_65_code 168 = .ok (.newarray .int, 2) := by decide +kernel
theorem dX14_init_170 : decode prog_13_method_65_code 170 = .ok (.putfield 359, 3) := by decide +kernel
theorem dX14_init_173 : decode prog_13_method_65_code 173 = .ok (.aload_n 0, 1) := by decide +kernel
theorem dX14_init_174 : decode prog_13_method_65_code 174 = .ok (.new 31, 3) := by decide +kernel
theorem dX14_init_177 : decode prog_13_method_65_code 177 = .ok (.dup, 1) := by decide +kernel
theorem dX14_init_178 : decode prog_13_method_65_code 178 = .ok (.invokespecial 462, 3) := by decide +kernel
theorem dX14_init_181 : decode prog_13_method_65_code 181 = .ok (.putfield 432, 3) := by decide +kernel
theorem dX14_init_184 : decode prog_13_method_65_code 184 = .ok (.aload_n 0, 1) := by decide +kernel
theorem dX14_init_185 : decode prog_13_method_65_code 185 = .ok (.bipush 8, 2) := by decide +kernel
theorem dX14_init_187 : decode prog_13_method_65_code 187 = .ok (.newarray .int, 2) := by decide +kernel
theorem dX14_init_189 : decode prog_13_method_65_code 189 = .ok (.putfield 471, 3) := by decide +kernel
theorem dX14_init_192 : decode prog_13_method_65_code 192 = .ok (.aload_n 0, 1) := by decide +kernel
theorem dX14_init_193 : decode prog_13_method_65_code 193 = .ok (.new 31, 3) := by decide +kernel
theorem dX14_init_196 : decode prog_13_method_65_code 196 = .ok (.dup, 1) := by decide +kernel
theorem dX14_init_197 : decode prog_13_method_65_code 197 = .ok (.invokespecial 462, 3) := by decide +kernel
theorem dX14_init_200 : decode prog_13_method_65_code 200 = .ok (.putfield 474, 3) := by decide +kernel
theorem dX14_init_203 : decode prog_13_method_65_code 203 = .ok (.aload_n 0, 1) := by decide +kernel
theorem dX14_init_204 : decode prog_13_method_65_code 204 = .ok (.sipush 200, 3) := by decide +kernel
theorem dX14_init_207 : decode prog_13_method_65_code 207 = .ok (.anewarray 289, 3) := by decide +kernel
theorem dX14_init_210 : decode prog_13_method_65_code 210 = .ok (.putfield 477, 3) := by decide +kernel
theorem dX14_init_213 : decode prog_13_method_65_code 213 = .ok (.aload_n 0, 1) := by decide +kernel
theorem dX14_init_214 : decode prog_13_method_65_code 214 = .ok (.sipush 200, 3) := by decide +kernel
theorem dX14_init_217 : decode prog_13_method_65_code 217 = .ok (.newarray .int, 2) := by decide +kernel
theorem dX14_init_219 : decode prog_13_method_65_code 219 = .ok (.putfield 481, 3) := by decide +kernel
theorem dX14_init_222 : decode prog_13_method_65_code 222 = .ok (.iconst 0, 1) := by decide +kernel
theorem dX14_init_223 : decode prog_13_method_65_code 223 = .ok (.istore_n 1, 1) := by decide +kernel
theorem dX14_init_224 : decode prog_13_method_65_code 224 = .ok (.iload_n 1, 1) := by decide +kernel
theorem dX14_init_225 : decode prog_13_method_65_code 225 = .ok (.sipush 200, 3) := by decide +kernel
theorem dX14_init_228 : decode prog_13_method_65_code 228 = .ok (.if_icmp .ge 22, 3) := by decide +kernel
theorem dX14_init_231 : decode prog_13_method_65_code 231 = .ok (.aload_n 0, 1) := by decide +kernel
theorem dX14_init_232 : decode prog_13_method_65_code 232 = .ok (.getfield 477, 3) := by decide +kernel
theorem dX14_init_235 : decode prog_13_method_65_code 235 = .ok (.iload_n 1, 1) := by decide +kernel
theorem dX14_init_236 : decode prog_13_method_65_code 236 = .ok (.new 289, 3) := by decide +kernel
theorem dX14_init_239 : decode prog_13_method_65_code 239 = .ok (.dup, 1) := by decide +kernel
theorem dX14_init_240 : decode prog_13_method_65_code 240 = .ok (.invokespecial 463, 3) := by decide +kernel
theorem dX14_init_243 : decode prog_13_method_65_code 243 = .ok (.aastore, 1) := by decide +kernel
theorem dX14_init_244 : decode prog_13_method_65_code 244 = .ok (.iinc 1 1, 3) := by decide +kernel
theorem dX14_init_247 : decode prog_13_method_65_code 247 = .ok (.goto (-23), 3) := by decide +kernel
theorem dX14_init_250 : decode prog_13_method_65_code 250 = .ok (.return_, 1) := by decide +kernel
end
section
theorem dX14_lay_0 : decode prog_13_method_86_code 0 = .ok (.bipush 56, 2) := by decide +kernel
theorem dX14_lay_2 : decode prog_13_method_86_code 2 = .ok (.istore_n 3, 1) := by decide +kernel
theorem dX14_lay_3 : decode prog_13_method_86_code 3 = .ok (.iload_n 3, 1) := by decide +kernel
theorem dX14_lay_4 : decode prog_13_method_86_code 4 = .ok (.ifCond .lt 36, 3) := by decide +kernel
theorem dX14_lay_7 : decode prog_13_method_86_code 7 = .ok (.aload_n 0, 1) := by decide +kernel
theorem dX14_lay_8 : decode prog_13_method_86_code 8 = .ok (.getfield 376, 3) := by decide +kernel
theorem dX14_lay_11 : decode prog_13_method_86_code 11 = .ok (.aload_n 0, 1) := by decide +kernel
theorem dX14_lay_12 : decode prog_13_method_86_code 12 = .ok (.getfield 373, 3) := by decide +kernel
theorem dX14_lay_15 : decode prog_13_method_86_code 15 = .ok (.lload_n 1, 1) := by decide +kernel
theorem dX14_lay_16 : decode prog_13_method_86_code 16 = .ok (.iload_n 3, 1) := by decide +kernel
theorem dX14_lay_17 : decode prog_13_method_86_code 17 = .ok (.lshr, 1) := by decide +kernel
theorem dX14_lay_18 : decode prog_13_method_86_code 18 = .ok (.ldc2_w 642, 3) := by decide +kernel
theorem dX14_lay_21 : decode prog_13_method_86_code 21 = .ok (.land, 1) := by decide +kernel
theorem dX14_lay_22 : decode prog_13_method_86_code 22 = .ok (.l2i, 1) := by decide +kernel
theorem dX14_lay_23 : decode prog_13_method_86_code 23 = .ok (.iastore, 1) := by decide +kernel
theorem dX14_lay_24 : decode prog_13_method_86_code 24 = .ok (.aload_n 0, 1) := by decide +kernel
theorem dX14_lay_25 : decode prog_13_method_86_code 25 = .ok (.dup, 1) := by decide +kernel
theorem dX14_lay_26 : decode prog_13_method_86_code 26 = .ok (.getfield 373, 3) := by decide +kernel
theorem dX14_lay_29 : decode prog_13_method_86_code 29 = .ok (.iconst 1, 1) := by decide +kernel
theorem dX14_lay_30 : decode prog_13_method_86_code 30 = .ok (.iadd, 1) := by decide +kernel
theorem dX14_lay_31 : decode prog_13_method_86_code 31 = .ok (.putfield 373, 3) := by decide +kernel
theorem dX14_lay_34 : decode prog_13_method_86_code 34 = .ok (.iinc 3 (-8), 3) := by decide +kernel
theorem dX14_lay_37 : decode prog_13_method_86_code 37 = .ok (.goto (-34), 3) := by decide +kernel
theorem dX14_lay_40 : decode prog_13_method_86_code 40 = .ok (.return_, 1) := by decide +kernel
theorem dX14_feed_0 : decode prog_13_method_87_code 0 = .ok (.aload_n 0, 1) := by decide +kernel
theorem dX14_feed_1 : decode prog_13_method_87_code 1 = .ok (.getfield 373, 3) := by decide +kernel
theorem dX14_feed_4 : decode prog_13_method_87_code 4 = .ok (.bipush 40, 2) := by decide +kernel
theorem dX14_feed_6 : decode prog_13_method_87_code 6 = .ok (.iadd, 1) := by decide +kernel
theorem dX14_feed_7 : decode prog_13_method_87_code 7 = .ok (.sipush 4000, 3) := by decide +kernel
theorem dX14_feed_10 : decode prog_13_method_87_code 10 = .ok (.if_icmp .le 5, 3) := by decide +kernel
theorem dX14_feed_13 : decode prog_13_method_87_code 13 = .ok (.iconst (-1), 1) := by decide +kernel
theorem dX14_feed_14 : decode prog_13_method_87_code 14 = .ok (.ireturn, 1) := by decide +kernel
theorem dX14_feed_15 : decode prog_13_method_87_code 15 = .ok (.aload_n 0, 1) := by decide +kernel
theorem dX14_feed_16 : decode prog_13_method_87_code 16 = .ok (.lload_n 1, 1) := by decide +kernel
theorem dX14_feed_17 : decode prog_13_method_87_code 17 = .ok (.invokevirtual 644, 3) := by decide +kernel
theorem dX14_feed_20 : decode prog_13_method_87_code 20 = .ok (.aload_n 0, 1) := by decide +kernel
theorem dX14_feed_21 : decode prog_13_method_87_code 21 = .ok (.lload_n 3, 1) := by decide +kernel
theorem dX14_feed_22 : decode prog_13_method_87_code 22 = .ok (.invokevirtual 644, 3) := by decide +kernel
theorem dX14_feed_25 : decode prog_13_method_87_code 25 = .ok (.aload_n 0, 1) := by decide +kernel
theorem dX14_feed_26 : decode prog_13_method_87_code 26 = .ok (.lload 5, 2) := by decide +kernel
theorem dX14_feed_28 : decode prog_13_method_87_code 28 = .ok (.invokevirtual 644, 3) := by decide +kernel
theorem dX14_feed_31 : decode prog_13_method_87_code 31 = .ok (.aload_n 0, 1) := by decide +kernel
theorem dX14_feed_32 : decode prog_13_method_87_code 32 = .ok (.lload 7, 2) := by decide +kernel
theorem dX14_feed_34 : decode prog_13_method_87_code 34 = .ok (.invokevirtual 644, 3) := by decide +kernel
theorem dX14_feed_37 : decode prog_13_method_87_code 37 = .ok (.aload_n 0, 1) := by decide +kernel
theorem dX14_feed_38 : decode prog_13_method_87_code 38 = .ok (.lload 9, 2) := by decide +kernel
theorem dX14_feed_40 : decode prog_13_method_87_code 40 = .ok (.invokevirtual 644, 3) := by decide +kernel
theorem dX14_feed_43 : decode prog_13_method_87_code 43 = .ok (.aload_n 0, 1) := by decide +kernel
theorem dX14_feed_44 : decode prog_13_method_87_code 44 = .ok (.getfield 373, 3) := by decide +kernel
theorem dX14_feed_47 : decode prog_13_method_87_code 47 = .ok (.ireturn, 1) := by decide +kernel
theorem dX14_end_0 : decode prog_13_method_88_code 0 = .ok (.iload_n 1, 1) := by decide +kernel
theorem dX14_end_1 : decode prog_13_method_88_code 1 = .ok (.ifCond .lt 20, 3) := by decide +kernel
theorem dX14_end_4 : decode prog_13_method_88_code 4 = .ok (.iload_n 1, 1) := by decide +kernel
theorem dX14_end_5 : decode prog_13_method_88_code 5 = .ok (.bipush 40, 2) := by decide +kernel
theorem dX14_end_7 : decode prog_13_method_88_code 7 = .ok (.if_icmp .gt 14, 3) := by decide +kernel
theorem dX14_end_10 : decode prog_13_method_88_code 10 = .ok (.aload_n 0, 1) := by decide +kernel
theorem dX14_end_11 : decode prog_13_method_88_code 11 = .ok (.getfield 373, 3) := by decide +kernel
theorem dX14_end_14 : decode prog_13_method_88_code 14 = .ok (.bipush 40, 2) := by decide +kernel
theorem dX14_end_16 : decode prog_13_method_88_code 16 = .ok (.iload_n 1, 1) := by decide +kernel
theorem dX14_end_17 : decode prog_13_method_88_code 17 = .ok (.isub, 1) := by decide +kernel
theorem dX14_end_18 : decode prog_13_method_88_code 18 = .ok (.if_icmp .ge 5, 3) := by decide +kernel
theorem dX14_end_21 : decode prog_13_method_88_code 21 = .ok (.iconst (-1), 1) := by decide +kernel
theorem dX14_end_22 : decode prog_13_method_88_code 22 = .ok (.ireturn, 1) := by decide +kernel
theorem dX14_end_23 : decode prog_13_method_88_code 23 = .ok (.aload_n 0, 1) := by decide +kernel
theorem dX14_end_24 : decode prog_13_method_88_code 24 = .ok (.dup, 1) := by decide +kernel
theorem dX14_end_25 : decode prog_13_method_88_code 25 = .ok (.getfield 373, 3) := by decide +kernel
theorem dX14_end_28 : decode prog_13_method_88_code 28 = .ok (.bipush 40, 2) := by decide +kernel
theorem dX14_end_30 : decode prog_13_method_88_code 30 = .ok (.iload_n 1, 1) := by decide +kernel
theorem dX14_end_31 : decode prog_13_method_88_code 31 = .ok (.isub, 1) := by decide +kernel
theorem dX14_end_32 : decode prog_13_method_88_code 32 = .ok (.isub, 1) := by decide +kernel
theorem dX14_end_33 : decode prog_13_method_88_code 33 = .ok (.putfield 373, 3) := by decide +kernel
theorem dX14_end_36 : decode prog_13_method_88_code 36 = .ok (.aload_n 0, 1) := by decide +kernel
theorem dX14_end_37 : decode prog_13_method_88_code 37 = .ok (.getfield 373, 3) := by decide +kernel
theorem dX14_end_40 : decode prog_13_method_88_code 40 = .ok (.ireturn, 1) := by decide +kernel
theorem dX14_run_0 : decode prog_13_method_89_code 0 = .ok (.aload_n 0, 1) := by decide +kernel
theorem dX14_run_1 : decode prog_13_method_89_code 1 = .ok (.getfield 318, 3) := by decide +kernel
theorem dX14_run_4 : decode prog_13_method_89_code 4 = .ok (.ifCond .eq 5, 3) := by decide +kernel
theorem dX14_run_9 : decode prog_13_method_89_code 9 = .ok (.aload_n 0, 1) := by decide +kernel
theorem dX14_run_10 : decode prog_13_method_89_code 10 = .ok (.iconst 0, 1) := by decide +kernel
theorem dX14_run_11 : decode prog_13_method_89_code 11 = .ok (.putfield 362, 3) := by decide +kernel
theorem dX14_run_14 : decode prog_13_method_89_code 14 = .ok (.aload_n 0, 1) := by decide +kernel
theorem dX14_run_15 : decode prog_13_method_89_code 15 = .ok (.iconst (-1), 1) := by decide +kernel
theorem dX14_run_16 : decode prog_13_method_89_code 16 = .ok (.putfield 370, 3) := by decide +kernel
theorem dX14_run_19 : decode prog_13_method_89_code 19 = .ok (.aload_n 0, 1) := by decide +kernel
theorem dX14_run_20 : decode prog_13_method_89_code 20 = .ok (.iconst 0, 1) := by decide +kernel
theorem dX14_run_21 : decode prog_13_method_89_code 21 = .ok (.putfield 365, 3) := by decide +kernel
theorem dX14_run_24 : decode prog_13_method_89_code 24 = .ok (.aload_n 0, 1) := by decide +kernel
theorem dX14_run_25 : decode prog_13_method_89_code 25 = .ok (.iconst 0, 1) := by decide +kernel
theorem dX14_run_26 : decode prog_13_method_89_code 26 = .ok (.putfield 379, 3) := by decide +kernel
theorem dX14_run_29 : decode prog_13_method_89_code 29 = .ok (.iconst 0, 1) := by decide +kernel
theorem dX14_run_30 : decode prog_13_method_89_code 30 = .ok (.istore_n 1, 1) := by decide +kernel
theorem dX14_run_31 : decode prog_13_method_89_code 31 = .ok (.aload_n 0, 1) := by decide +kernel
theorem dX14_run_32 : decode prog_13_method_89_code 32 = .ok (.invokevirtual 423, 3) := by decide +kernel
theorem dX14_run_35 : decode prog_13_method_89_code 35 = .ok (.aload_n 0, 1) := by decide +kernel
theorem dX14_run_36 : decode prog_13_method_89_code 36 = .ok (.getfield 385, 3) := by decide +kernel
theorem dX14_run_39 : decode prog_13_method_89_code 39 = .ok (.ifCond .eq 46, 3) := by decide +kernel
theorem dX14_run_85 : decode prog_13_method_89_code 85 = .ok (.aload_n 0, 1) := by decide +kernel
theorem dX14_run_86 : decode prog_13_method_89_code 86 = .ok (.iconst 0, 1) := by decide +kernel
theorem dX14_run_87 : decode prog_13_method_89_code 87 = .ok (.putfield 373, 3) := by decide +kernel
theorem dX14_run_90 : decode prog_13_method_89_code 90 = .ok (.iload_n 1, 1) := by decide +kernel
theorem dX14_run_91 : decode prog_13_method_89_code 91 = .ok (.ireturn, 1) := by decide +kernel
theorem dX14_wrong_0 : decode prog_13_method_90_code 0 = .ok (.aload_n 0, 1) := by decide +kernel
theorem dX14_wrong_1 : decode prog_13_method_90_code 1 = .ok (.getfield 370, 3) := by decide +kernel
theorem dX14_wrong_4 : decode prog_13_method_90_code 4 = .ok (.ireturn, 1) := by decide +kernel
theorem dX14_outputs_0 : decode prog_13_method_91_code 0 = .ok (.aload_n 0, 1) := by decide +kernel
theorem dX14_outputs_1 : decode prog_13_method_91_code 1 = .ok (.getfield 362, 3) := by decide +kernel
theorem dX14_outputs_4 : decode prog_13_method_91_code 4 = .ok (.ireturn, 1) := by decide +kernel
theorem dX14_out_0 : decode prog_13_method_92_code 0 = .ok (.iload_n 1, 1) := by decide +kernel
theorem dX14_out_1 : decode prog_13_method_92_code 1 = .ok (.ifCond .lt 20, 3) := by decide +kernel
theorem dX14_out_4 : decode prog_13_method_92_code 4 = .ok (.iload_n 1, 1) := by decide +kernel
theorem dX14_out_5 : decode prog_13_method_92_code 5 = .ok (.aload_n 0, 1) := by decide +kernel
theorem dX14_out_6 : decode prog_13_method_92_code 6 = .ok (.getfield 362, 3) := by decide +kernel
theorem dX14_out_9 : decode prog_13_method_92_code 9 = .ok (.if_icmp .ge 12, 3) := by decide +kernel
theorem dX14_out_12 : decode prog_13_method_92_code 12 = .ok (.aload_n 0, 1) := by decide +kernel
theorem dX14_out_13 : decode prog_13_method_92_code 13 = .ok (.getfield 359, 3) := by decide +kernel
theorem dX14_out_16 : decode prog_13_method_92_code 16 = .ok (.iload_n 1, 1) := by decide +kernel
theorem dX14_out_17 : decode prog_13_method_92_code 17 = .ok (.iaload, 1) := by decide +kernel
theorem dX14_out_18 : decode prog_13_method_92_code 18 = .ok (.goto 4, 3) := by decide +kernel
theorem dX14_out_21 : decode prog_13_method_92_code 21 = .ok (.iconst 0, 1) := by decide +kernel
theorem dX14_out_22 : decode prog_13_method_92_code 22 = .ok (.ireturn, 1) := by decide +kernel
theorem dX14_crash_0 : decode prog_13_method_93_code 0 = .ok (.iload_n 1, 1) := by decide +kernel
theorem dX14_crash_1 : decode prog_13_method_93_code 1 = .ok (.ifCond .lt 38, 3) := by decide +kernel
theorem dX14_crash_4 : decode prog_13_method_93_code 4 = .ok (.iload_n 1, 1) := by decide +kernel
theorem dX14_crash_5 : decode prog_13_method_93_code 5 = .ok (.iconst 1, 1) := by decide +kernel
theorem dX14_crash_6 : decode prog_13_method_93_code 6 = .ok (.if_icmp .gt 33, 3) := by decide +kernel
theorem dX14_crash_9 : decode prog_13_method_93_code 9 = .ok (.iload_n 2, 1) := by decide +kernel
theorem dX14_crash_10 : decode prog_13_method_93_code 10 = .ok (.iconst 1, 1) := by decide +kernel
theorem dX14_crash_11 : decode prog_13_method_93_code 11 = .ok (.if_icmp .lt 28, 3) := by decide +kernel
theorem dX14_crash_14 : decode prog_13_method_93_code 14 = .ok (.iload_n 2, 1) := by decide +kernel
theorem dX14_crash_15 : decode prog_13_method_93_code 15 = .ok (.sipush 1000, 3) := by decide +kernel
theorem dX14_crash_18 : decode prog_13_method_93_code 18 = .ok (.if_icmp .gt 21, 3) := by decide +kernel
theorem dX14_crash_21 : decode prog_13_method_93_code 21 = .ok (.iload_n 3, 1) := by decide +kernel
theorem dX14_crash_22 : decode prog_13_method_93_code 22 = .ok (.ifCond .lt 17, 3) := by decide +kernel
theorem dX14_crash_25 : decode prog_13_method_93_code 25 = .ok (.iload_n 3, 1) := by decide +kernel
theorem dX14_crash_26 : decode prog_13_method_93_code 26 = .ok (.sipush 200, 3) := by decide +kernel
theorem dX14_crash_29 : decode prog_13_method_93_code 29 = .ok (.if_icmp .gt 10, 3) := by decide +kernel
theorem dX14_crash_32 : decode prog_13_method_93_code 32 = .ok (.aload_n 0, 1) := by decide +kernel
theorem dX14_crash_33 : decode prog_13_method_93_code 33 = .ok (.getfield 318, 3) := by decide +kernel
theorem dX14_crash_36 : decode prog_13_method_93_code 36 = .ok (.ifCond .eq 5, 3) := by decide +kernel
theorem dX14_crash_39 : decode prog_13_method_93_code 39 = .ok (.iconst 0, 1) := by decide +kernel
theorem dX14_crash_40 : decode prog_13_method_93_code 40 = .ok (.ireturn, 1) := by decide +kernel
theorem dX14_crash_41 : decode prog_13_method_93_code 41 = .ok (.aload_n 0, 1) := by decide +kernel
theorem dX14_crash_42 : decode prog_13_method_93_code 42 = .ok (.iload_n 1, 1) := by decide +kernel
theorem dX14_crash_43 : decode prog_13_method_93_code 43 = .ok (.putfield 323, 3) := by decide +kernel
theorem dX14_crash_46 : decode prog_13_method_93_code 46 = .ok (.aload_n 0, 1) := by decide +kernel
theorem dX14_crash_47 : decode prog_13_method_93_code 47 = .ok (.iload_n 2, 1) := by decide +kernel
theorem dX14_crash_48 : decode prog_13_method_93_code 48 = .ok (.putfield 326, 3) := by decide +kernel
theorem dX14_crash_51 : decode prog_13_method_93_code 51 = .ok (.iconst 1, 1) := by decide +kernel
theorem dX14_crash_52 : decode prog_13_method_93_code 52 = .ok (.ireturn, 1) := by decide +kernel
theorem dX14_recover_0 : decode prog_13_method_94_code 0 = .ok (.aload_n 0, 1) := by decide +kernel
theorem dX14_recover_1 : decode prog_13_method_94_code 1 = .ok (.getfield 351, 3) := by decide +kernel
theorem dX14_recover_4 : decode prog_13_method_94_code 4 = .ok (.aload_n 0, 1) := by decide +kernel
theorem dX14_recover_5 : decode prog_13_method_94_code 5 = .ok (.getfield 347, 3) := by decide +kernel
theorem dX14_recover_8 : decode prog_13_method_94_code 8 = .ok (.invokevirtual 354, 3) := by decide +kernel
theorem dX14_recover_11 : decode prog_13_method_94_code 11 = .ok (.aload_n 0, 1) := by decide +kernel
theorem dX14_recover_12 : decode prog_13_method_94_code 12 = .ok (.iconst 0, 1) := by decide +kernel
theorem dX14_recover_13 : decode prog_13_method_94_code 13 = .ok (.putfield 321, 3) := by decide +kernel
theorem dX14_recover_16 : decode prog_13_method_94_code 16 = .ok (.aload_n 0, 1) := by decide +kernel
theorem dX14_recover_17 : decode prog_13_method_94_code 17 = .ok (.iconst 0, 1) := by decide +kernel
theorem dX14_recover_18 : decode prog_13_method_94_code 18 = .ok (.putfield 318, 3) := by decide +kernel
theorem dX14_recover_21 : decode prog_13_method_94_code 21 = .ok (.aload_n 0, 1) := by decide +kernel
theorem dX14_recover_22 : decode prog_13_method_94_code 22 = .ok (.iconst 0, 1) := by decide +kernel
theorem dX14_recover_23 : decode prog_13_method_94_code 23 = .ok (.putfield 338, 3) := by decide +kernel
theorem dX14_recover_26 : decode prog_13_method_94_code 26 = .ok (.aload_n 0, 1) := by decide +kernel
theorem dX14_recover_27 : decode prog_13_method_94_code 27 = .ok (.iconst (-1), 1) := by decide +kernel
theorem dX14_recover_28 : decode prog_13_method_94_code 28 = .ok (.putfield 323, 3) := by decide +kernel
theorem dX14_recover_31 : decode prog_13_method_94_code 31 = .ok (.aload_n 0, 1) := by decide +kernel
theorem dX14_recover_32 : decode prog_13_method_94_code 32 = .ok (.getfield 351, 3) := by decide +kernel
theorem dX14_recover_35 : decode prog_13_method_94_code 35 = .ok (.getfield 581, 3) := by decide +kernel
theorem dX14_recover_38 : decode prog_13_method_94_code 38 = .ok (.ireturn, 1) := by decide +kernel
theorem dX14_isDown_0 : decode prog_13_method_95_code 0 = .ok (.aload_n 0, 1) := by decide +kernel
theorem dX14_isDown_1 : decode prog_13_method_95_code 1 = .ok (.getfield 318, 3) := by decide +kernel
theorem dX14_isDown_4 : decode prog_13_method_95_code 4 = .ok (.ireturn, 1) := by decide +kernel
theorem dX14_isOpen_0 : decode prog_13_method_96_code 0 = .ok (.aload_n 0, 1) := by decide +kernel
theorem dX14_isOpen_1 : decode prog_13_method_96_code 1 = .ok (.getfield 321, 3) := by decide +kernel
theorem dX14_isOpen_4 : decode prog_13_method_96_code 4 = .ok (.ireturn, 1) := by decide +kernel
theorem dX14_live_0 : decode prog_13_method_97_code 0 = .ok (.aload_n 0, 1) := by decide +kernel
theorem dX14_live_1 : decode prog_13_method_97_code 1 = .ok (.getfield 318, 3) := by decide +kernel
theorem dX14_live_4 : decode prog_13_method_97_code 4 = .ok (.ifCond .eq 7, 3) := by decide +kernel
theorem dX14_live_7 : decode prog_13_method_97_code 7 = .ok (.iconst (-1), 1) := by decide +kernel
theorem dX14_live_8 : decode prog_13_method_97_code 8 = .ok (.goto 10, 3) := by decide +kernel
theorem dX14_live_11 : decode prog_13_method_97_code 11 = .ok (.aload_n 0, 1) := by decide +kernel
theorem dX14_live_12 : decode prog_13_method_97_code 12 = .ok (.getfield 351, 3) := by decide +kernel
theorem dX14_live_15 : decode prog_13_method_97_code 15 = .ok (.getfield 581, 3) := by decide +kernel
theorem dX14_live_18 : decode prog_13_method_97_code 18 = .ok (.ireturn, 1) := by decide +kernel
theorem dX14_idAt_0 : decode prog_13_method_98_code 0 = .ok (.aload_n 0, 1) := by decide +kernel
theorem dX14_idAt_1 : decode prog_13_method_98_code 1 = .ok (.getfield 318, 3) := by decide +kernel
theorem dX14_idAt_4 : decode prog_13_method_98_code 4 = .ok (.ifCond .ne 18, 3) := by decide +kernel
theorem dX14_idAt_7 : decode prog_13_method_98_code 7 = .ok (.iload_n 1, 1) := by decide +kernel
theorem dX14_idAt_8 : decode prog_13_method_98_code 8 = .ok (.ifCond .lt 14, 3) := by decide +kernel
theorem dX14_idAt_11 : decode prog_13_method_98_code 11 = .ok (.iload_n 1, 1) := by decide +kernel
theorem dX14_idAt_12 : decode prog_13_method_98_code 12 = .ok (.aload_n 0, 1) := by decide +kernel
theorem dX14_idAt_13 : decode prog_13_method_98_code 13 = .ok (.getfield 351, 3) := by decide +kernel
theorem dX14_idAt_16 : decode prog_13_method_98_code 16 = .ok (.getfield 581, 3) := by decide +kernel
theorem dX14_idAt_19 : decode prog_13_method_98_code 19 = .ok (.if_icmp .lt 7, 3) := by decide +kernel
theorem dX14_idAt_22 : decode prog_13_method_98_code 22 = .ok (.iconst (-1), 1) := by decide +kernel
theorem dX14_idAt_23 : decode prog_13_method_98_code 23 = .ok (.goto 15, 3) := by decide +kernel
theorem dX14_idAt_38 : decode prog_13_method_98_code 38 = .ok (.ireturn, 1) := by decide +kernel
theorem dX14_standing_0 : decode prog_13_method_99_code 0 = .ok (.aload_n 0, 1) := by decide +kernel
theorem dX14_standing_1 : decode prog_13_method_99_code 1 = .ok (.getfield 318, 3) := by decide +kernel
theorem dX14_standing_4 : decode prog_13_method_99_code 4 = .ok (.ifCond .eq 7, 3) := by decide +kernel
theorem dX14_standing_11 : decode prog_13_method_99_code 11 = .ok (.aload_n 0, 1) := by decide +kernel
theorem dX14_standing_12 : decode prog_13_method_99_code 12 = .ok (.getfield 351, 3) := by decide +kernel
theorem dX14_standing_15 : decode prog_13_method_99_code 15 = .ok (.iload_n 1, 1) := by decide +kernel
theorem dX14_standing_16 : decode prog_13_method_99_code 16 = .ok (.invokevirtual 573, 3) := by decide +kernel
theorem dX14_standing_19 : decode prog_13_method_99_code 19 = .ok (.ireturn, 1) := by decide +kernel
theorem dX14_kindOf_0 : decode prog_13_method_100_code 0 = .ok (.aload_n 0, 1) := by decide +kernel
theorem dX14_kindOf_1 : decode prog_13_method_100_code 1 = .ok (.iload_n 1, 1) := by decide +kernel
theorem dX14_kindOf_2 : decode prog_13_method_100_code 2 = .ok (.invokevirtual 650, 3) := by decide +kernel
theorem dX14_kindOf_5 : decode prog_13_method_100_code 5 = .ok (.istore_n 2, 1) := by decide +kernel
theorem dX14_kindOf_6 : decode prog_13_method_100_code 6 = .ok (.iload_n 2, 1) := by decide +kernel
theorem dX14_kindOf_7 : decode prog_13_method_100_code 7 = .ok (.ifCond .ge 7, 3) := by decide +kernel
theorem dX14_kindOf_10 : decode prog_13_method_100_code 10 = .ok (.iconst (-1), 1) := by decide +kernel
theorem dX14_kindOf_11 : decode prog_13_method_100_code 11 = .ok (.goto 15, 3) := by decide +kernel
theorem dX14_kindOf_26 : decode prog_13_method_100_code 26 = .ok (.ireturn, 1) := by decide +kernel
theorem dX14_places_0 : decode prog_13_method_101_code 0 = .ok (.aload_n 0, 1) := by decide +kernel
theorem dX14_places_1 : decode prog_13_method_101_code 1 = .ok (.iload_n 1, 1) := by decide +kernel
theorem dX14_places_2 : decode prog_13_method_101_code 2 = .ok (.invokevirtual 650, 3) := by decide +kernel
theorem dX14_places_5 : decode prog_13_method_101_code 5 = .ok (.istore_n 2, 1) := by decide +kernel
theorem dX14_places_6 : decode prog_13_method_101_code 6 = .ok (.iload_n 2, 1) := by decide +kernel
theorem dX14_places_7 : decode prog_13_method_101_code 7 = .ok (.ifCond .ge 7, 3) := by decide +kernel
theorem dX14_places_10 : decode prog_13_method_101_code 10 = .ok (.iconst (-1), 1) := by decide +kernel
theorem dX14_places_11 : decode prog_13_method_101_code 11 = .ok (.goto 15, 3) := by decide +kernel
theorem dX14_places_26 : decode prog_13_method_101_code 26 = .ok (.ireturn, 1) := by decide +kernel
theorem dX14_rings_0 : decode prog_13_method_102_code 0 = .ok (.aload_n 0, 1) := by decide +kernel
theorem dX14_rings_1 : decode prog_13_method_102_code 1 = .ok (.iload_n 1, 1) := by decide +kernel
theorem dX14_rings_2 : decode prog_13_method_102_code 2 = .ok (.invokevirtual 650, 3) := by decide +kernel
theorem dX14_rings_5 : decode prog_13_method_102_code 5 = .ok (.istore_n 2, 1) := by decide +kernel
theorem dX14_rings_6 : decode prog_13_method_102_code 6 = .ok (.iload_n 2, 1) := by decide +kernel
theorem dX14_rings_7 : decode prog_13_method_102_code 7 = .ok (.ifCond .ge 7, 3) := by decide +kernel
theorem dX14_rings_10 : decode prog_13_method_102_code 10 = .ok (.iconst (-1), 1) := by decide +kernel
theorem dX14_rings_11 : decode prog_13_method_102_code 11 = .ok (.goto 15, 3) := by decide +kernel
theorem dX14_rings_26 : decode prog_13_method_102_code 26 = .ok (.ireturn, 1) := by decide +kernel
theorem dX14_at_0 : decode prog_13_method_103_code 0 = .ok (.aload_n 0, 1) := by decide +kernel
theorem dX14_at_1 : decode prog_13_method_103_code 1 = .ok (.iload_n 1, 1) := by decide +kernel
theorem dX14_at_2 : decode prog_13_method_103_code 2 = .ok (.invokevirtual 650, 3) := by decide +kernel
theorem dX14_at_5 : decode prog_13_method_103_code 5 = .ok (.istore 4, 2) := by decide +kernel
theorem dX14_at_7 : decode prog_13_method_103_code 7 = .ok (.iload 4, 2) := by decide +kernel
theorem dX14_at_9 : decode prog_13_method_103_code 9 = .ok (.ifCond .lt 33, 3) := by decide +kernel
theorem dX14_at_42 : decode prog_13_method_103_code 42 = .ok (.iconst 0, 1) := by decide +kernel
theorem dX14_at_43 : decode prog_13_method_103_code 43 = .ok (.ireturn, 1) := by decide +kernel
theorem dX14_relate_0 : decode prog_13_method_104_code 0 = .ok (.aload_n 0, 1) := by decide +kernel
theorem dX14_relate_1 : decode prog_13_method_104_code 1 = .ok (.iload_n 2, 1) := by decide +kernel
theorem dX14_relate_2 : decode prog_13_method_104_code 2 = .ok (.invokevirtual 650, 3) := by decide +kernel
theorem dX14_relate_5 : decode prog_13_method_104_code 5 = .ok (.istore 4, 2) := by decide +kernel
theorem dX14_relate_7 : decode prog_13_method_104_code 7 = .ok (.aload_n 0, 1) := by decide +kernel
theorem dX14_relate_8 : decode prog_13_method_104_code 8 = .ok (.iload_n 3, 1) := by decide +kernel
theorem dX14_relate_9 : decode prog_13_method_104_code 9 = .ok (.invokevirtual 650, 3) := by decide +kernel
theorem dX14_relate_12 : decode prog_13_method_104_code 12 = .ok (.istore 5, 2) := by decide +kernel
theorem dX14_relate_14 : decode prog_13_method_104_code 14 = .ok (.iload 4, 2) := by decide +kernel
theorem dX14_relate_16 : decode prog_13_method_104_code 16 = .ok (.ifCond .lt 17, 3) := by decide +kernel
theorem dX14_relate_33 : decode prog_13_method_104_code 33 = .ok (.iconst (-1), 1) := by decide +kernel
theorem dX14_relate_34 : decode prog_13_method_104_code 34 = .ok (.ireturn, 1) := by decide +kernel
theorem dX14_nearer_0 : decode prog_13_method_105_code 0 = .ok (.aload_n 0, 1) := by decide +kernel
theorem dX14_nearer_1 : decode prog_13_method_105_code 1 = .ok (.iload_n 1, 1) := by decide +kernel
theorem dX14_nearer_2 : decode prog_13_method_105_code 2 = .ok (.invokevirtual 650, 3) := by decide +kernel
theorem dX14_nearer_5 : decode prog_13_method_105_code 5 = .ok (.istore 5, 2) := by decide +kernel
theorem dX14_nearer_7 : decode prog_13_method_105_code 7 = .ok (.aload_n 0, 1) := by decide +kernel
theorem dX14_nearer_8 : decode prog_13_method_105_code 8 = .ok (.iload_n 2, 1) := by decide +kernel
theorem dX14_nearer_9 : decode prog_13_method_105_code 9 = .ok (.invokevirtual 650, 3) := by decide +kernel
theorem dX14_nearer_12 : decode prog_13_method_105_code 12 = .ok (.istore 6, 2) := by decide +kernel
theorem dX14_nearer_14 : decode prog_13_method_105_code 14 = .ok (.iload 5, 2) := by decide +kernel
theorem dX14_nearer_16 : decode prog_13_method_105_code 16 = .ok (.ifCond .lt 25, 3) := by decide +kernel
theorem dX14_nearer_41 : decode prog_13_method_105_code 41 = .ok (.bipush (-2), 2) := by decide +kernel
theorem dX14_nearer_43 : decode prog_13_method_105_code 43 = .ok (.ireturn, 1) := by decide +kernel
theorem dX14_used_0 : decode prog_13_method_106_code 0 = .ok (.aload_n 0, 1) := by decide +kernel
theorem dX14_used_1 : decode prog_13_method_106_code 1 = .ok (.getfield 318, 3) := by decide +kernel
theorem dX14_used_4 : decode prog_13_method_106_code 4 = .ok (.ifCond .eq 7, 3) := by decide +kernel
theorem dX14_used_7 : decode prog_13_method_106_code 7 = .ok (.iconst (-1), 1) := by decide +kernel
theorem dX14_used_8 : decode prog_13_method_106_code 8 = .ok (.goto 7, 3) := by decide +kernel
theorem dX14_used_11 : decode prog_13_method_106_code 11 = .ok (.aload_n 0, 1) := by decide +kernel
theorem dX14_used_12 : decode prog_13_method_106_code 12 = .ok (.getfield 332, 3) := by decide +kernel
theorem dX14_used_15 : decode prog_13_method_106_code 15 = .ok (.ireturn, 1) := by decide +kernel
theorem dX14_saves_0 : decode prog_13_method_107_code 0 = .ok (.aload_n 0, 1) := by decide +kernel
theorem dX14_saves_1 : decode prog_13_method_107_code 1 = .ok (.getfield 335, 3) := by decide +kernel
theorem dX14_saves_4 : decode prog_13_method_107_code 4 = .ok (.ireturn, 1) := by decide +kernel
theorem dX14_flaws_0 : decode prog_13_method_108_code 0 = .ok (.iconst 0, 1) := by decide +kernel
theorem dX14_flaws_1 : decode prog_13_method_108_code 1 = .ok (.ireturn, 1) := by decide +kernel
theorem dL_law_0 : decode code 0 = .ok (.new 7, 3) := by decide +kernel
theorem dL_law_3 : decode code 3 = .ok (.dup, 1) := by decide +kernel
theorem dL_law_4 : decode code 4 = .ok (.invokespecial 9, 3) := by decide +kernel
theorem dL_law_7 : decode code 7 = .ok (.astore_n 1, 1) := by decide +kernel
theorem dL_law_8 : decode code 8 = .ok (.new 10, 3) := by decide +kernel
theorem dL_law_11 : decode code 11 = .ok (.dup, 1) := by decide +kernel
theorem dL_law_12 : decode code 12 = .ok (.invokespecial 12, 3) := by decide +kernel
theorem dL_law_15 : decode code 15 = .ok (.astore_n 2, 1) := by decide +kernel
theorem dL_law_16 : decode code 16 = .ok (.iconst 0, 1) := by decide +kernel
theorem dL_law_17 : decode code 17 = .ok (.istore_n 3, 1) := by decide +kernel
theorem dL_law_18 : decode code 18 = .ok (.iload_n 3, 1) := by decide +kernel
theorem dL_law_19 : decode code 19 = .ok (.aload_n 0, 1) := by decide +kernel
theorem dL_law_20 : decode code 20 = .ok (.arraylength, 1) := by decide +kernel
theorem dL_law_21 : decode code 21 = .ok (.bipush 11, 2) := by decide +kernel
theorem dL_law_23 : decode code 23 = .ok (.isub, 1) := by decide +kernel
theorem dL_law_24 : decode code 24 = .ok (.if_icmp .gt 787, 3) := by decide +kernel
theorem dL_law_27 : decode code 27 = .ok (.aload_n 0, 1) := by decide +kernel
theorem dL_law_28 : decode code 28 = .ok (.iload_n 3, 1) := by decide +kernel
theorem dL_law_29 : decode code 29 = .ok (.iaload, 1) := by decide +kernel
theorem dL_law_30 : decode code 30 = .ok (.bipush 31, 2) := by decide +kernel
theorem dL_law_32 : decode code 32 = .ok (.iand, 1) := by decide +kernel
theorem dL_law_33 : decode code 33 = .ok (.tableswitch 772 0 20 #[99, 322, 345, 358, 371, 384, 407, 450, 463, 476, 489, 502, 525, 548, 571, 594, 637, 680, 733, 746, 759], 99) := by decide +kernel
theorem dL_law_132 : decode code 132 = .ok (.aload_n 1, 1) := by decide +kernel
theorem dL_law_133 : decode code 133 = .ok (.aload_n 0, 1) := by decide +kernel
theorem dL_law_134 : decode code 134 = .ok (.iload_n 3, 1) := by decide +kernel
theorem dL_law_135 : decode code 135 = .ok (.iconst 1, 1) := by decide +kernel
theorem dL_law_136 : decode code 136 = .ok (.iadd, 1) := by decide +kernel
theorem dL_law_137 : decode code 137 = .ok (.iaload, 1) := by decide +kernel
theorem dL_law_138 : decode code 138 = .ok (.i2l, 1) := by decide +kernel
theorem dL_law_139 : decode code 139 = .ok (.bipush 32, 2) := by decide +kernel
theorem dL_law_141 : decode code 141 = .ok (.lshl, 1) := by decide +kernel
theorem dL_law_142 : decode code 142 = .ok (.aload_n 0, 1) := by decide +kernel
theorem dL_law_143 : decode code 143 = .ok (.iload_n 3, 1) := by decide +kernel
theorem dL_law_144 : decode code 144 = .ok (.iconst 2, 1) := by decide +kernel
theorem dL_law_145 : decode code 145 = .ok (.iadd, 1) := by decide +kernel
theorem dL_law_146 : decode code 146 = .ok (.iaload, 1) := by decide +kernel
theorem dL_law_147 : decode code 147 = .ok (.i2l, 1) := by decide +kernel
theorem dL_law_148 : decode code 148 = .ok (.ldc2_w 13, 3) := by decide +kernel
theorem dL_law_151 : decode code 151 = .ok (.land, 1) := by decide +kernel
theorem dL_law_152 : decode code 152 = .ok (.lor, 1) := by decide +kernel
theorem dL_law_153 : decode code 153 = .ok (.aload_n 0, 1) := by decide +kernel
theorem dL_law_154 : decode code 154 = .ok (.iload_n 3, 1) := by decide +kernel
theorem dL_law_155 : decode code 155 = .ok (.iconst 3, 1) := by decide +kernel
theorem dL_law_156 : decode code 156 = .ok (.iadd, 1) := by decide +kernel
theorem dL_law_157 : decode code 157 = .ok (.iaload, 1) := by decide +kernel
theorem dL_law_158 : decode code 158 = .ok (.i2l, 1) := by decide +kernel
theorem dL_law_159 : decode code 159 = .ok (.bipush 32, 2) := by decide +kernel
theorem dL_law_161 : decode code 161 = .ok (.lshl, 1) := by decide +kernel
theorem dL_law_162 : decode code 162 = .ok (.aload_n 0, 1) := by decide +kernel
theorem dL_law_163 : decode code 163 = .ok (.iload_n 3, 1) := by decide +kernel
theorem dL_law_164 : decode code 164 = .ok (.iconst 4, 1) := by decide +kernel
theorem dL_law_165 : decode code 165 = .ok (.iadd, 1) := by decide +kernel
theorem dL_law_166 : decode code 166 = .ok (.iaload, 1) := by decide +kernel
theorem dL_law_167 : decode code 167 = .ok (.i2l, 1) := by decide +kernel
theorem dL_law_168 : decode code 168 = .ok (.ldc2_w 13, 3) := by decide +kernel
theorem dL_law_171 : decode code 171 = .ok (.land, 1) := by decide +kernel
theorem dL_law_172 : decode code 172 = .ok (.lor, 1) := by decide +kernel
theorem dL_law_173 : decode code 173 = .ok (.aload_n 0, 1) := by decide +kernel
theorem dL_law_174 : decode code 174 = .ok (.iload_n 3, 1) := by decide +kernel
theorem dL_law_175 : decode code 175 = .ok (.iconst 5, 1) := by decide +kernel
theorem dL_law_176 : decode code 176 = .ok (.iadd, 1) := by decide +kernel
theorem dL_law_177 : decode code 177 = .ok (.iaload, 1) := by decide +kernel
theorem dL_law_178 : decode code 178 = .ok (.i2l, 1) := by decide +kernel
theorem dL_law_179 : decode code 179 = .ok (.bipush 32, 2) := by decide +kernel
theorem dL_law_181 : decode code 181 = .ok (.lshl, 1) := by decide +kernel
theorem dL_law_182 : decode code 182 = .ok (.aload_n 0, 1) := by decide +kernel
theorem dL_law_183 : decode code 183 = .ok (.iload_n 3, 1) := by decide +kernel
theorem dL_law_184 : decode code 184 = .ok (.bipush 6, 2) := by decide +kernel
theorem dL_law_186 : decode code 186 = .ok (.iadd, 1) := by decide +kernel
theorem dL_law_187 : decode code 187 = .ok (.iaload, 1) := by decide +kernel
theorem dL_law_188 : decode code 188 = .ok (.i2l, 1) := by decide +kernel
theorem dL_law_189 : decode code 189 = .ok (.ldc2_w 13, 3) := by decide +kernel
theorem dL_law_192 : decode code 192 = .ok (.land, 1) := by decide +kernel
theorem dL_law_193 : decode code 193 = .ok (.lor, 1) := by decide +kernel
theorem dL_law_194 : decode code 194 = .ok (.aload_n 0, 1) := by decide +kernel
theorem dL_law_195 : decode code 195 = .ok (.iload_n 3, 1) := by decide +kernel
theorem dL_law_196 : decode code 196 = .ok (.bipush 7, 2) := by decide +kernel
theorem dL_law_198 : decode code 198 = .ok (.iadd, 1) := by decide +kernel
theorem dL_law_199 : decode code 199 = .ok (.iaload, 1) := by decide +kernel
theorem dL_law_200 : decode code 200 = .ok (.i2l, 1) := by decide +kernel
theorem dL_law_201 : decode code 201 = .ok (.bipush 32, 2) := by decide +kernel
theorem dL_law_203 : decode code 203 = .ok (.lshl, 1) := by decide +kernel
theorem dL_law_204 : decode code 204 = .ok (.aload_n 0, 1) := by decide +kernel
theorem dL_law_205 : decode code 205 = .ok (.iload_n 3, 1) := by decide +kernel
theorem dL_law_206 : decode code 206 = .ok (.bipush 8, 2) := by decide +kernel
theorem dL_law_208 : decode code 208 = .ok (.iadd, 1) := by decide +kernel
theorem dL_law_209 : decode code 209 = .ok (.iaload, 1) := by decide +kernel
theorem dL_law_210 : decode code 210 = .ok (.i2l, 1) := by decide +kernel
theorem dL_law_211 : decode code 211 = .ok (.ldc2_w 13, 3) := by decide +kernel
theorem dL_law_214 : decode code 214 = .ok (.land, 1) := by decide +kernel
theorem dL_law_215 : decode code 215 = .ok (.lor, 1) := by decide +kernel
theorem dL_law_216 : decode code 216 = .ok (.aload_n 0, 1) := by decide +kernel
theorem dL_law_217 : decode code 217 = .ok (.iload_n 3, 1) := by decide +kernel
theorem dL_law_218 : decode code 218 = .ok (.bipush 9, 2) := by decide +kernel
theorem dL_law_220 : decode code 220 = .ok (.iadd, 1) := by decide +kernel
theorem dL_law_221 : decode code 221 = .ok (.iaload, 1) := by decide +kernel
theorem dL_law_222 : decode code 222 = .ok (.i2l, 1) := by decide +kernel
theorem dL_law_223 : decode code 223 = .ok (.bipush 32, 2) := by decide +kernel
theorem dL_law_225 : decode code 225 = .ok (.lshl, 1) := by decide +kernel
theorem dL_law_226 : decode code 226 = .ok (.aload_n 0, 1) := by decide +kernel
theorem dL_law_227 : decode code 227 = .ok (.iload_n 3, 1) := by decide +kernel
theorem dL_law_228 : decode code 228 = .ok (.bipush 10, 2) := by decide +kernel
theorem dL_law_230 : decode code 230 = .ok (.iadd, 1) := by decide +kernel
theorem dL_law_231 : decode code 231 = .ok (.iaload, 1) := by decide +kernel
theorem dL_law_232 : decode code 232 = .ok (.i2l, 1) := by decide +kernel
theorem dL_law_233 : decode code 233 = .ok (.ldc2_w 13, 3) := by decide +kernel
theorem dL_law_236 : decode code 236 = .ok (.land, 1) := by decide +kernel
theorem dL_law_237 : decode code 237 = .ok (.lor, 1) := by decide +kernel
theorem dL_law_238 : decode code 238 = .ok (.invokevirtual 15, 3) := by decide +kernel
theorem dL_law_241 : decode code 241 = .ok (.aload_n 2, 1) := by decide +kernel
theorem dL_law_242 : decode code 242 = .ok (.aload_n 0, 1) := by decide +kernel
theorem dL_law_243 : decode code 243 = .ok (.iload_n 3, 1) := by decide +kernel
theorem dL_law_244 : decode code 244 = .ok (.iconst 1, 1) := by decide +kernel
theorem dL_law_245 : decode code 245 = .ok (.iadd, 1) := by decide +kernel
theorem dL_law_246 : decode code 246 = .ok (.iaload, 1) := by decide +kernel
theorem dL_law_247 : decode code 247 = .ok (.i2l, 1) := by decide +kernel
theorem dL_law_248 : decode code 248 = .ok (.bipush 32, 2) := by decide +kernel
theorem dL_law_250 : decode code 250 = .ok (.lshl, 1) := by decide +kernel
theorem dL_law_251 : decode code 251 = .ok (.aload_n 0, 1) := by decide +kernel
theorem dL_law_252 : decode code 252 = .ok (.iload_n 3, 1) := by decide +kernel
theorem dL_law_253 : decode code 253 = .ok (.iconst 2, 1) := by decide +kernel
theorem dL_law_254 : decode code 254 = .ok (.iadd, 1) := by decide +kernel
theorem dL_law_255 : decode code 255 = .ok (.iaload, 1) := by decide +kernel
theorem dL_law_256 : decode code 256 = .ok (.i2l, 1) := by decide +kernel
theorem dL_law_257 : decode code 257 = .ok (.ldc2_w 13, 3) := by decide +kernel
theorem dL_law_260 : decode code 260 = .ok (.land, 1) := by decide +kernel
theorem dL_law_261 : decode code 261 = .ok (.lor, 1) := by decide +kernel
theorem dL_law_262 : decode code 262 = .ok (.aload_n 0, 1) := by decide +kernel
theorem dL_law_263 : decode code 263 = .ok (.iload_n 3, 1) := by decide +kernel
theorem dL_law_264 : decode code 264 = .ok (.iconst 3, 1) := by decide +kernel
theorem dL_law_265 : decode code 265 = .ok (.iadd, 1) := by decide +kernel
theorem dL_law_266 : decode code 266 = .ok (.iaload, 1) := by decide +kernel
theorem dL_law_267 : decode code 267 = .ok (.i2l, 1) := by decide +kernel
theorem dL_law_268 : decode code 268 = .ok (.bipush 32, 2) := by decide +kernel
theorem dL_law_270 : decode code 270 = .ok (.lshl, 1) := by decide +kernel
theorem dL_law_271 : decode code 271 = .ok (.aload_n 0, 1) := by decide +kernel
theorem dL_law_272 : decode code 272 = .ok (.iload_n 3, 1) := by decide +kernel
theorem dL_law_273 : decode code 273 = .ok (.iconst 4, 1) := by decide +kernel
theorem dL_law_274 : decode code 274 = .ok (.iadd, 1) := by decide +kernel
theorem dL_law_275 : decode code 275 = .ok (.iaload, 1) := by decide +kernel
theorem dL_law_276 : decode code 276 = .ok (.i2l, 1) := by decide +kernel
theorem dL_law_277 : decode code 277 = .ok (.ldc2_w 13, 3) := by decide +kernel
theorem dL_law_280 : decode code 280 = .ok (.land, 1) := by decide +kernel
theorem dL_law_281 : decode code 281 = .ok (.lor, 1) := by decide +kernel
theorem dL_law_282 : decode code 282 = .ok (.aload_n 0, 1) := by decide +kernel
theorem dL_law_283 : decode code 283 = .ok (.iload_n 3, 1) := by decide +kernel
theorem dL_law_284 : decode code 284 = .ok (.iconst 5, 1) := by decide +kernel
theorem dL_law_285 : decode code 285 = .ok (.iadd, 1) := by decide +kernel
theorem dL_law_286 : decode code 286 = .ok (.iaload, 1) := by decide +kernel
theorem dL_law_287 : decode code 287 = .ok (.i2l, 1) := by decide +kernel
theorem dL_law_288 : decode code 288 = .ok (.bipush 32, 2) := by decide +kernel
theorem dL_law_290 : decode code 290 = .ok (.lshl, 1) := by decide +kernel
theorem dL_law_291 : decode code 291 = .ok (.aload_n 0, 1) := by decide +kernel
theorem dL_law_292 : decode code 292 = .ok (.iload_n 3, 1) := by decide +kernel
theorem dL_law_293 : decode code 293 = .ok (.bipush 6, 2) := by decide +kernel
theorem dL_law_295 : decode code 295 = .ok (.iadd, 1) := by decide +kernel
theorem dL_law_296 : decode code 296 = .ok (.iaload, 1) := by decide +kernel
theorem dL_law_297 : decode code 297 = .ok (.i2l, 1) := by decide +kernel
theorem dL_law_298 : decode code 298 = .ok (.ldc2_w 13, 3) := by decide +kernel
theorem dL_law_301 : decode code 301 = .ok (.land, 1) := by decide +kernel
theorem dL_law_302 : decode code 302 = .ok (.lor, 1) := by decide +kernel
theorem dL_law_303 : decode code 303 = .ok (.aload_n 0, 1) := by decide +kernel
theorem dL_law_304 : decode code 304 = .ok (.iload_n 3, 1) := by decide +kernel
theorem dL_law_305 : decode code 305 = .ok (.bipush 7, 2) := by decide +kernel
theorem dL_law_307 : decode code 307 = .ok (.iadd, 1) := by decide +kernel
theorem dL_law_308 : decode code 308 = .ok (.iaload, 1) := by decide +kernel
theorem dL_law_309 : decode code 309 = .ok (.i2l, 1) := by decide +kernel
theorem dL_law_310 : decode code 310 = .ok (.bipush 32, 2) := by decide +kernel
theorem dL_law_312 : decode code 312 = .ok (.lshl, 1) := by decide +kernel
theorem dL_law_313 : decode code 313 = .ok (.aload_n 0, 1) := by decide +kernel
theorem dL_law_314 : decode code 314 = .ok (.iload_n 3, 1) := by decide +kernel
theorem dL_law_315 : decode code 315 = .ok (.bipush 8, 2) := by decide +kernel
theorem dL_law_317 : decode code 317 = .ok (.iadd, 1) := by decide +kernel
theorem dL_law_318 : decode code 318 = .ok (.iaload, 1) := by decide +kernel
theorem dL_law_319 : decode code 319 = .ok (.i2l, 1) := by decide +kernel
theorem dL_law_320 : decode code 320 = .ok (.ldc2_w 13, 3) := by decide +kernel
theorem dL_law_323 : decode code 323 = .ok (.land, 1) := by decide +kernel
theorem dL_law_324 : decode code 324 = .ok (.lor, 1) := by decide +kernel
theorem dL_law_325 : decode code 325 = .ok (.aload_n 0, 1) := by decide +kernel
theorem dL_law_326 : decode code 326 = .ok (.iload_n 3, 1) := by decide +kernel
theorem dL_law_327 : decode code 327 = .ok (.bipush 9, 2) := by decide +kernel
theorem dL_law_329 : decode code 329 = .ok (.iadd, 1) := by decide +kernel
theorem dL_law_330 : decode code 330 = .ok (.iaload, 1) := by decide +kernel
theorem dL_law_331 : decode code 331 = .ok (.i2l, 1) := by decide +kernel
theorem dL_law_332 : decode code 332 = .ok (.bipush 32, 2) := by decide +kernel
theorem dL_law_334 : decode code 334 = .ok (.lshl, 1) := by decide +kernel
theorem dL_law_335 : decode code 335 = .ok (.aload_n 0, 1) := by decide +kernel
theorem dL_law_336 : decode code 336 = .ok (.iload_n 3, 1) := by decide +kernel
theorem dL_law_337 : decode code 337 = .ok (.bipush 10, 2) := by decide +kernel
theorem dL_law_339 : decode code 339 = .ok (.iadd, 1) := by decide +kernel
theorem dL_law_340 : decode code 340 = .ok (.iaload, 1) := by decide +kernel
theorem dL_law_341 : decode code 341 = .ok (.i2l, 1) := by decide +kernel
theorem dL_law_342 : decode code 342 = .ok (.ldc2_w 13, 3) := by decide +kernel
theorem dL_law_345 : decode code 345 = .ok (.land, 1) := by decide +kernel
theorem dL_law_346 : decode code 346 = .ok (.lor, 1) := by decide +kernel
theorem dL_law_347 : decode code 347 = .ok (.invokevirtual 19, 3) := by decide +kernel
theorem dL_law_350 : decode code 350 = .ok (.if_icmp .eq 455, 3) := by decide +kernel
theorem dL_law_355 : decode code 355 = .ok (.aload_n 1, 1) := by decide +kernel
theorem dL_law_356 : decode code 356 = .ok (.aload_n 0, 1) := by decide +kernel
theorem dL_law_357 : decode code 357 = .ok (.iload_n 3, 1) := by decide +kernel
theorem dL_law_358 : decode code 358 = .ok (.iconst 1, 1) := by decide +kernel
theorem dL_law_359 : decode code 359 = .ok (.iadd, 1) := by decide +kernel
theorem dL_law_360 : decode code 360 = .ok (.iaload, 1) := by decide +kernel
theorem dL_law_361 : decode code 361 = .ok (.invokevirtual 20, 3) := by decide +kernel
theorem dL_law_364 : decode code 364 = .ok (.aload_n 2, 1) := by decide +kernel
theorem dL_law_365 : decode code 365 = .ok (.aload_n 0, 1) := by decide +kernel
theorem dL_law_366 : decode code 366 = .ok (.iload_n 3, 1) := by decide +kernel
theorem dL_law_367 : decode code 367 = .ok (.iconst 1, 1) := by decide +kernel
theorem dL_law_368 : decode code 368 = .ok (.iadd, 1) := by decide +kernel
theorem dL_law_369 : decode code 369 = .ok (.iaload, 1) := by decide +kernel
theorem dL_law_370 : decode code 370 = .ok (.invokevirtual 24, 3) := by decide +kernel
theorem dL_law_373 : decode code 373 = .ok (.if_icmp .eq 432, 3) := by decide +kernel
theorem dL_law_378 : decode code 378 = .ok (.aload_n 1, 1) := by decide +kernel
theorem dL_law_379 : decode code 379 = .ok (.invokevirtual 25, 3) := by decide +kernel
theorem dL_law_382 : decode code 382 = .ok (.aload_n 2, 1) := by decide +kernel
theorem dL_law_383 : decode code 383 = .ok (.invokevirtual 29, 3) := by decide +kernel
theorem dL_law_386 : decode code 386 = .ok (.if_icmp .eq 419, 3) := by decide +kernel
theorem dL_law_391 : decode code 391 = .ok (.aload_n 1, 1) := by decide +kernel
theorem dL_law_392 : decode code 392 = .ok (.invokevirtual 30, 3) := by decide +kernel
theorem dL_law_395 : decode code 395 = .ok (.aload_n 2, 1) := by decide +kernel
theorem dL_law_396 : decode code 396 = .ok (.invokevirtual 33, 3) := by decide +kernel
end
section
theorem dL_law_399 : decode code 399 = .ok (.if_icmp .eq 406, 3) := by decide +kernel
theorem dL_law_404 : decode code 404 = .ok (.aload_n 1, 1) := by decide +kernel
theorem dL_law_405 : decode code 405 = .ok (.invokevirtual 34, 3) := by decide +kernel
theorem dL_law_408 : decode code 408 = .ok (.aload_n 2, 1) := by decide +kernel
theorem dL_law_409 : decode code 409 = .ok (.invokevirtual 37, 3) := by decide +kernel
theorem dL_law_412 : decode code 412 = .ok (.if_icmp .eq 393, 3) := by decide +kernel
theorem dL_law_417 : decode code 417 = .ok (.aload_n 1, 1) := by decide +kernel
theorem dL_law_418 : decode code 418 = .ok (.aload_n 0, 1) := by decide +kernel
theorem dL_law_419 : decode code 419 = .ok (.iload_n 3, 1) := by decide +kernel
theorem dL_law_420 : decode code 420 = .ok (.iconst 1, 1) := by decide +kernel
theorem dL_law_421 : decode code 421 = .ok (.iadd, 1) := by decide +kernel
theorem dL_law_422 : decode code 422 = .ok (.iaload, 1) := by decide +kernel
theorem dL_law_423 : decode code 423 = .ok (.invokevirtual 38, 3) := by decide +kernel
theorem dL_law_426 : decode code 426 = .ok (.aload_n 2, 1) := by decide +kernel
theorem dL_law_427 : decode code 427 = .ok (.aload_n 0, 1) := by decide +kernel
theorem dL_law_428 : decode code 428 = .ok (.iload_n 3, 1) := by decide +kernel
theorem dL_law_429 : decode code 429 = .ok (.iconst 1, 1) := by decide +kernel
theorem dL_law_430 : decode code 430 = .ok (.iadd, 1) := by decide +kernel
theorem dL_law_431 : decode code 431 = .ok (.iaload, 1) := by decide +kernel
theorem dL_law_432 : decode code 432 = .ok (.invokevirtual 41, 3) := by decide +kernel
theorem dL_law_435 : decode code 435 = .ok (.if_icmp .eq 370, 3) := by decide +kernel
theorem dL_law_440 : decode code 440 = .ok (.aload_n 1, 1) := by decide +kernel
theorem dL_law_441 : decode code 441 = .ok (.aload_n 0, 1) := by decide +kernel
theorem dL_law_442 : decode code 442 = .ok (.iload_n 3, 1) := by decide +kernel
theorem dL_law_443 : decode code 443 = .ok (.iconst 1, 1) := by decide +kernel
theorem dL_law_444 : decode code 444 = .ok (.iadd, 1) := by decide +kernel
theorem dL_law_445 : decode code 445 = .ok (.iaload, 1) := by decide +kernel
theorem dL_law_446 : decode code 446 = .ok (.aload_n 0, 1) := by decide +kernel
theorem dL_law_447 : decode code 447 = .ok (.iload_n 3, 1) := by decide +kernel
theorem dL_law_448 : decode code 448 = .ok (.iconst 2, 1) := by decide +kernel
theorem dL_law_449 : decode code 449 = .ok (.iadd, 1) := by decide +kernel
theorem dL_law_450 : decode code 450 = .ok (.iaload, 1) := by decide +kernel
theorem dL_law_451 : decode code 451 = .ok (.aload_n 0, 1) := by decide +kernel
theorem dL_law_452 : decode code 452 = .ok (.iload_n 3, 1) := by decide +kernel
theorem dL_law_453 : decode code 453 = .ok (.iconst 3, 1) := by decide +kernel
theorem dL_law_454 : decode code 454 = .ok (.iadd, 1) := by decide +kernel
theorem dL_law_455 : decode code 455 = .ok (.iaload, 1) := by decide +kernel
theorem dL_law_456 : decode code 456 = .ok (.invokevirtual 42, 3) := by decide +kernel
theorem dL_law_459 : decode code 459 = .ok (.aload_n 2, 1) := by decide +kernel
theorem dL_law_460 : decode code 460 = .ok (.aload_n 0, 1) := by decide +kernel
theorem dL_law_461 : decode code 461 = .ok (.iload_n 3, 1) := by decide +kernel
theorem dL_law_462 : decode code 462 = .ok (.iconst 1, 1) := by decide +kernel
theorem dL_law_463 : decode code 463 = .ok (.iadd, 1) := by decide +kernel
theorem dL_law_464 : decode code 464 = .ok (.iaload, 1) := by decide +kernel
theorem dL_law_465 : decode code 465 = .ok (.aload_n 0, 1) := by decide +kernel
theorem dL_law_466 : decode code 466 = .ok (.iload_n 3, 1) := by decide +kernel
theorem dL_law_467 : decode code 467 = .ok (.iconst 2, 1) := by decide +kernel
theorem dL_law_468 : decode code 468 = .ok (.iadd, 1) := by decide +kernel
theorem dL_law_469 : decode code 469 = .ok (.iaload, 1) := by decide +kernel
theorem dL_law_470 : decode code 470 = .ok (.aload_n 0, 1) := by decide +kernel
theorem dL_law_471 : decode code 471 = .ok (.iload_n 3, 1) := by decide +kernel
theorem dL_law_472 : decode code 472 = .ok (.iconst 3, 1) := by decide +kernel
theorem dL_law_473 : decode code 473 = .ok (.iadd, 1) := by decide +kernel
theorem dL_law_474 : decode code 474 = .ok (.iaload, 1) := by decide +kernel
theorem dL_law_475 : decode code 475 = .ok (.invokevirtual 46, 3) := by decide +kernel
theorem dL_law_478 : decode code 478 = .ok (.if_icmp .eq 327, 3) := by decide +kernel
theorem dL_law_483 : decode code 483 = .ok (.aload_n 1, 1) := by decide +kernel
theorem dL_law_484 : decode code 484 = .ok (.invokevirtual 47, 3) := by decide +kernel
theorem dL_law_487 : decode code 487 = .ok (.aload_n 2, 1) := by decide +kernel
theorem dL_law_488 : decode code 488 = .ok (.invokevirtual 50, 3) := by decide +kernel
theorem dL_law_491 : decode code 491 = .ok (.if_icmp .eq 314, 3) := by decide +kernel
theorem dL_law_496 : decode code 496 = .ok (.aload_n 1, 1) := by decide +kernel
theorem dL_law_497 : decode code 497 = .ok (.invokevirtual 51, 3) := by decide +kernel
theorem dL_law_500 : decode code 500 = .ok (.aload_n 2, 1) := by decide +kernel
theorem dL_law_501 : decode code 501 = .ok (.invokevirtual 55, 3) := by decide +kernel
theorem dL_law_504 : decode code 504 = .ok (.if_icmp .eq 301, 3) := by decide +kernel
theorem dL_law_509 : decode code 509 = .ok (.aload_n 1, 1) := by decide +kernel
theorem dL_law_510 : decode code 510 = .ok (.invokevirtual 56, 3) := by decide +kernel
theorem dL_law_513 : decode code 513 = .ok (.aload_n 2, 1) := by decide +kernel
theorem dL_law_514 : decode code 514 = .ok (.invokevirtual 59, 3) := by decide +kernel
theorem dL_law_517 : decode code 517 = .ok (.if_icmp .eq 288, 3) := by decide +kernel
theorem dL_law_522 : decode code 522 = .ok (.aload_n 1, 1) := by decide +kernel
theorem dL_law_523 : decode code 523 = .ok (.invokevirtual 60, 3) := by decide +kernel
theorem dL_law_526 : decode code 526 = .ok (.aload_n 2, 1) := by decide +kernel
theorem dL_law_527 : decode code 527 = .ok (.invokevirtual 63, 3) := by decide +kernel
theorem dL_law_530 : decode code 530 = .ok (.if_icmp .eq 275, 3) := by decide +kernel
theorem dL_law_535 : decode code 535 = .ok (.aload_n 1, 1) := by decide +kernel
theorem dL_law_536 : decode code 536 = .ok (.aload_n 0, 1) := by decide +kernel
theorem dL_law_537 : decode code 537 = .ok (.iload_n 3, 1) := by decide +kernel
theorem dL_law_538 : decode code 538 = .ok (.iconst 1, 1) := by decide +kernel
theorem dL_law_539 : decode code 539 = .ok (.iadd, 1) := by decide +kernel
theorem dL_law_540 : decode code 540 = .ok (.iaload, 1) := by decide +kernel
theorem dL_law_541 : decode code 541 = .ok (.invokevirtual 64, 3) := by decide +kernel
theorem dL_law_544 : decode code 544 = .ok (.aload_n 2, 1) := by decide +kernel
theorem dL_law_545 : decode code 545 = .ok (.aload_n 0, 1) := by decide +kernel
theorem dL_law_546 : decode code 546 = .ok (.iload_n 3, 1) := by decide +kernel
theorem dL_law_547 : decode code 547 = .ok (.iconst 1, 1) := by decide +kernel
theorem dL_law_548 : decode code 548 = .ok (.iadd, 1) := by decide +kernel
theorem dL_law_549 : decode code 549 = .ok (.iaload, 1) := by decide +kernel
theorem dL_law_550 : decode code 550 = .ok (.invokevirtual 67, 3) := by decide +kernel
theorem dL_law_553 : decode code 553 = .ok (.if_icmp .eq 252, 3) := by decide +kernel
theorem dL_law_558 : decode code 558 = .ok (.aload_n 1, 1) := by decide +kernel
theorem dL_law_559 : decode code 559 = .ok (.aload_n 0, 1) := by decide +kernel
theorem dL_law_560 : decode code 560 = .ok (.iload_n 3, 1) := by decide +kernel
theorem dL_law_561 : decode code 561 = .ok (.iconst 1, 1) := by decide +kernel
theorem dL_law_562 : decode code 562 = .ok (.iadd, 1) := by decide +kernel
theorem dL_law_563 : decode code 563 = .ok (.iaload, 1) := by decide +kernel
theorem dL_law_564 : decode code 564 = .ok (.invokevirtual 68, 3) := by decide +kernel
theorem dL_law_567 : decode code 567 = .ok (.aload_n 2, 1) := by decide +kernel
theorem dL_law_568 : decode code 568 = .ok (.aload_n 0, 1) := by decide +kernel
theorem dL_law_569 : decode code 569 = .ok (.iload_n 3, 1) := by decide +kernel
theorem dL_law_570 : decode code 570 = .ok (.iconst 1, 1) := by decide +kernel
theorem dL_law_571 : decode code 571 = .ok (.iadd, 1) := by decide +kernel
theorem dL_law_572 : decode code 572 = .ok (.iaload, 1) := by decide +kernel
theorem dL_law_573 : decode code 573 = .ok (.invokevirtual 71, 3) := by decide +kernel
theorem dL_law_576 : decode code 576 = .ok (.if_icmp .eq 229, 3) := by decide +kernel
theorem dL_law_581 : decode code 581 = .ok (.aload_n 1, 1) := by decide +kernel
theorem dL_law_582 : decode code 582 = .ok (.aload_n 0, 1) := by decide +kernel
theorem dL_law_583 : decode code 583 = .ok (.iload_n 3, 1) := by decide +kernel
theorem dL_law_584 : decode code 584 = .ok (.iconst 1, 1) := by decide +kernel
theorem dL_law_585 : decode code 585 = .ok (.iadd, 1) := by decide +kernel
theorem dL_law_586 : decode code 586 = .ok (.iaload, 1) := by decide +kernel
theorem dL_law_587 : decode code 587 = .ok (.invokevirtual 72, 3) := by decide +kernel
theorem dL_law_590 : decode code 590 = .ok (.aload_n 2, 1) := by decide +kernel
theorem dL_law_591 : decode code 591 = .ok (.aload_n 0, 1) := by decide +kernel
theorem dL_law_592 : decode code 592 = .ok (.iload_n 3, 1) := by decide +kernel
theorem dL_law_593 : decode code 593 = .ok (.iconst 1, 1) := by decide +kernel
theorem dL_law_594 : decode code 594 = .ok (.iadd, 1) := by decide +kernel
theorem dL_law_595 : decode code 595 = .ok (.iaload, 1) := by decide +kernel
theorem dL_law_596 : decode code 596 = .ok (.invokevirtual 75, 3) := by decide +kernel
theorem dL_law_599 : decode code 599 = .ok (.if_icmp .eq 206, 3) := by decide +kernel
theorem dL_law_604 : decode code 604 = .ok (.aload_n 1, 1) := by decide +kernel
theorem dL_law_605 : decode code 605 = .ok (.aload_n 0, 1) := by decide +kernel
theorem dL_law_606 : decode code 606 = .ok (.iload_n 3, 1) := by decide +kernel
theorem dL_law_607 : decode code 607 = .ok (.iconst 1, 1) := by decide +kernel
theorem dL_law_608 : decode code 608 = .ok (.iadd, 1) := by decide +kernel
theorem dL_law_609 : decode code 609 = .ok (.iaload, 1) := by decide +kernel
theorem dL_law_610 : decode code 610 = .ok (.invokevirtual 76, 3) := by decide +kernel
theorem dL_law_613 : decode code 613 = .ok (.aload_n 2, 1) := by decide +kernel
theorem dL_law_614 : decode code 614 = .ok (.aload_n 0, 1) := by decide +kernel
theorem dL_law_615 : decode code 615 = .ok (.iload_n 3, 1) := by decide +kernel
theorem dL_law_616 : decode code 616 = .ok (.iconst 1, 1) := by decide +kernel
theorem dL_law_617 : decode code 617 = .ok (.iadd, 1) := by decide +kernel
theorem dL_law_618 : decode code 618 = .ok (.iaload, 1) := by decide +kernel
theorem dL_law_619 : decode code 619 = .ok (.invokevirtual 79, 3) := by decide +kernel
theorem dL_law_622 : decode code 622 = .ok (.if_icmp .eq 183, 3) := by decide +kernel
theorem dL_law_627 : decode code 627 = .ok (.aload_n 1, 1) := by decide +kernel
theorem dL_law_628 : decode code 628 = .ok (.aload_n 0, 1) := by decide +kernel
theorem dL_law_629 : decode code 629 = .ok (.iload_n 3, 1) := by decide +kernel
theorem dL_law_630 : decode code 630 = .ok (.iconst 1, 1) := by decide +kernel
theorem dL_law_631 : decode code 631 = .ok (.iadd, 1) := by decide +kernel
theorem dL_law_632 : decode code 632 = .ok (.iaload, 1) := by decide +kernel
theorem dL_law_633 : decode code 633 = .ok (.aload_n 0, 1) := by decide +kernel
theorem dL_law_634 : decode code 634 = .ok (.iload_n 3, 1) := by decide +kernel
theorem dL_law_635 : decode code 635 = .ok (.iconst 2, 1) := by decide +kernel
theorem dL_law_636 : decode code 636 = .ok (.iadd, 1) := by decide +kernel
theorem dL_law_637 : decode code 637 = .ok (.iaload, 1) := by decide +kernel
theorem dL_law_638 : decode code 638 = .ok (.aload_n 0, 1) := by decide +kernel
theorem dL_law_639 : decode code 639 = .ok (.iload_n 3, 1) := by decide +kernel
theorem dL_law_640 : decode code 640 = .ok (.iconst 3, 1) := by decide +kernel
theorem dL_law_641 : decode code 641 = .ok (.iadd, 1) := by decide +kernel
theorem dL_law_642 : decode code 642 = .ok (.iaload, 1) := by decide +kernel
theorem dL_law_643 : decode code 643 = .ok (.invokevirtual 80, 3) := by decide +kernel
theorem dL_law_646 : decode code 646 = .ok (.aload_n 2, 1) := by decide +kernel
theorem dL_law_647 : decode code 647 = .ok (.aload_n 0, 1) := by decide +kernel
theorem dL_law_648 : decode code 648 = .ok (.iload_n 3, 1) := by decide +kernel
theorem dL_law_649 : decode code 649 = .ok (.iconst 1, 1) := by decide +kernel
theorem dL_law_650 : decode code 650 = .ok (.iadd, 1) := by decide +kernel
theorem dL_law_651 : decode code 651 = .ok (.iaload, 1) := by decide +kernel
theorem dL_law_652 : decode code 652 = .ok (.aload_n 0, 1) := by decide +kernel
theorem dL_law_653 : decode code 653 = .ok (.iload_n 3, 1) := by decide +kernel
theorem dL_law_654 : decode code 654 = .ok (.iconst 2, 1) := by decide +kernel
theorem dL_law_655 : decode code 655 = .ok (.iadd, 1) := by decide +kernel
theorem dL_law_656 : decode code 656 = .ok (.iaload, 1) := by decide +kernel
theorem dL_law_657 : decode code 657 = .ok (.aload_n 0, 1) := by decide +kernel
theorem dL_law_658 : decode code 658 = .ok (.iload_n 3, 1) := by decide +kernel
theorem dL_law_659 : decode code 659 = .ok (.iconst 3, 1) := by decide +kernel
theorem dL_law_660 : decode code 660 = .ok (.iadd, 1) := by decide +kernel
theorem dL_law_661 : decode code 661 = .ok (.iaload, 1) := by decide +kernel
theorem dL_law_662 : decode code 662 = .ok (.invokevirtual 84, 3) := by decide +kernel
theorem dL_law_665 : decode code 665 = .ok (.if_icmp .eq 140, 3) := by decide +kernel
theorem dL_law_670 : decode code 670 = .ok (.aload_n 1, 1) := by decide +kernel
theorem dL_law_671 : decode code 671 = .ok (.aload_n 0, 1) := by decide +kernel
theorem dL_law_672 : decode code 672 = .ok (.iload_n 3, 1) := by decide +kernel
theorem dL_law_673 : decode code 673 = .ok (.iconst 1, 1) := by decide +kernel
theorem dL_law_674 : decode code 674 = .ok (.iadd, 1) := by decide +kernel
theorem dL_law_675 : decode code 675 = .ok (.iaload, 1) := by decide +kernel
theorem dL_law_676 : decode code 676 = .ok (.aload_n 0, 1) := by decide +kernel
theorem dL_law_677 : decode code 677 = .ok (.iload_n 3, 1) := by decide +kernel
theorem dL_law_678 : decode code 678 = .ok (.iconst 2, 1) := by decide +kernel
theorem dL_law_679 : decode code 679 = .ok (.iadd, 1) := by decide +kernel
theorem dL_law_680 : decode code 680 = .ok (.iaload, 1) := by decide +kernel
theorem dL_law_681 : decode code 681 = .ok (.aload_n 0, 1) := by decide +kernel
theorem dL_law_682 : decode code 682 = .ok (.iload_n 3, 1) := by decide +kernel
theorem dL_law_683 : decode code 683 = .ok (.iconst 3, 1) := by decide +kernel
theorem dL_law_684 : decode code 684 = .ok (.iadd, 1) := by decide +kernel
theorem dL_law_685 : decode code 685 = .ok (.iaload, 1) := by decide +kernel
theorem dL_law_686 : decode code 686 = .ok (.invokevirtual 85, 3) := by decide +kernel
theorem dL_law_689 : decode code 689 = .ok (.aload_n 2, 1) := by decide +kernel
theorem dL_law_690 : decode code 690 = .ok (.aload_n 0, 1) := by decide +kernel
theorem dL_law_691 : decode code 691 = .ok (.iload_n 3, 1) := by decide +kernel
theorem dL_law_692 : decode code 692 = .ok (.iconst 1, 1) := by decide +kernel
theorem dL_law_693 : decode code 693 = .ok (.iadd, 1) := by decide +kernel
theorem dL_law_694 : decode code 694 = .ok (.iaload, 1) := by decide +kernel
theorem dL_law_695 : decode code 695 = .ok (.aload_n 0, 1) := by decide +kernel
theorem dL_law_696 : decode code 696 = .ok (.iload_n 3, 1) := by decide +kernel
theorem dL_law_697 : decode code 697 = .ok (.iconst 2, 1) := by decide +kernel
theorem dL_law_698 : decode code 698 = .ok (.iadd, 1) := by decide +kernel
theorem dL_law_699 : decode code 699 = .ok (.iaload, 1) := by decide +kernel
theorem dL_law_700 : decode code 700 = .ok (.aload_n 0, 1) := by decide +kernel
theorem dL_law_701 : decode code 701 = .ok (.iload_n 3, 1) := by decide +kernel
theorem dL_law_702 : decode code 702 = .ok (.iconst 3, 1) := by decide +kernel
theorem dL_law_703 : decode code 703 = .ok (.iadd, 1) := by decide +kernel
theorem dL_law_704 : decode code 704 = .ok (.iaload, 1) := by decide +kernel
theorem dL_law_705 : decode code 705 = .ok (.invokevirtual 88, 3) := by decide +kernel
theorem dL_law_708 : decode code 708 = .ok (.if_icmp .eq 97, 3) := by decide +kernel
theorem dL_law_713 : decode code 713 = .ok (.aload_n 1, 1) := by decide +kernel
theorem dL_law_714 : decode code 714 = .ok (.aload_n 0, 1) := by decide +kernel
theorem dL_law_715 : decode code 715 = .ok (.iload_n 3, 1) := by decide +kernel
theorem dL_law_716 : decode code 716 = .ok (.iconst 1, 1) := by decide +kernel
theorem dL_law_717 : decode code 717 = .ok (.iadd, 1) := by decide +kernel
theorem dL_law_718 : decode code 718 = .ok (.iaload, 1) := by decide +kernel
theorem dL_law_719 : decode code 719 = .ok (.aload_n 0, 1) := by decide +kernel
theorem dL_law_720 : decode code 720 = .ok (.iload_n 3, 1) := by decide +kernel
theorem dL_law_721 : decode code 721 = .ok (.iconst 2, 1) := by decide +kernel
theorem dL_law_722 : decode code 722 = .ok (.iadd, 1) := by decide +kernel
theorem dL_law_723 : decode code 723 = .ok (.iaload, 1) := by decide +kernel
theorem dL_law_724 : decode code 724 = .ok (.aload_n 0, 1) := by decide +kernel
theorem dL_law_725 : decode code 725 = .ok (.iload_n 3, 1) := by decide +kernel
theorem dL_law_726 : decode code 726 = .ok (.iconst 3, 1) := by decide +kernel
theorem dL_law_727 : decode code 727 = .ok (.iadd, 1) := by decide +kernel
theorem dL_law_728 : decode code 728 = .ok (.iaload, 1) := by decide +kernel
theorem dL_law_729 : decode code 729 = .ok (.aload_n 0, 1) := by decide +kernel
theorem dL_law_730 : decode code 730 = .ok (.iload_n 3, 1) := by decide +kernel
theorem dL_law_731 : decode code 731 = .ok (.iconst 4, 1) := by decide +kernel
theorem dL_law_732 : decode code 732 = .ok (.iadd, 1) := by decide +kernel
theorem dL_law_733 : decode code 733 = .ok (.iaload, 1) := by decide +kernel
theorem dL_law_734 : decode code 734 = .ok (.invokevirtual 89, 3) := by decide +kernel
theorem dL_law_737 : decode code 737 = .ok (.aload_n 2, 1) := by decide +kernel
theorem dL_law_738 : decode code 738 = .ok (.aload_n 0, 1) := by decide +kernel
theorem dL_law_739 : decode code 739 = .ok (.iload_n 3, 1) := by decide +kernel
theorem dL_law_740 : decode code 740 = .ok (.iconst 1, 1) := by decide +kernel
theorem dL_law_741 : decode code 741 = .ok (.iadd, 1) := by decide +kernel
theorem dL_law_742 : decode code 742 = .ok (.iaload, 1) := by decide +kernel
theorem dL_law_743 : decode code 743 = .ok (.aload_n 0, 1) := by decide +kernel
theorem dL_law_744 : decode code 744 = .ok (.iload_n 3, 1) := by decide +kernel
theorem dL_law_745 : decode code 745 = .ok (.iconst 2, 1) := by decide +kernel
theorem dL_law_746 : decode code 746 = .ok (.iadd, 1) := by decide +kernel
theorem dL_law_747 : decode code 747 = .ok (.iaload, 1) := by decide +kernel
theorem dL_law_748 : decode code 748 = .ok (.aload_n 0, 1) := by decide +kernel
theorem dL_law_749 : decode code 749 = .ok (.iload_n 3, 1) := by decide +kernel
theorem dL_law_750 : decode code 750 = .ok (.iconst 3, 1) := by decide +kernel
theorem dL_law_751 : decode code 751 = .ok (.iadd, 1) := by decide +kernel
theorem dL_law_752 : decode code 752 = .ok (.iaload, 1) := by decide +kernel
theorem dL_law_753 : decode code 753 = .ok (.aload_n 0, 1) := by decide +kernel
theorem dL_law_754 : decode code 754 = .ok (.iload_n 3, 1) := by decide +kernel
theorem dL_law_755 : decode code 755 = .ok (.iconst 4, 1) := by decide +kernel
theorem dL_law_756 : decode code 756 = .ok (.iadd, 1) := by decide +kernel
theorem dL_law_757 : decode code 757 = .ok (.iaload, 1) := by decide +kernel
theorem dL_law_758 : decode code 758 = .ok (.invokevirtual 93, 3) := by decide +kernel
theorem dL_law_761 : decode code 761 = .ok (.if_icmp .eq 44, 3) := by decide +kernel
theorem dL_law_766 : decode code 766 = .ok (.aload_n 1, 1) := by decide +kernel
theorem dL_law_767 : decode code 767 = .ok (.invokevirtual 94, 3) := by decide +kernel
theorem dL_law_770 : decode code 770 = .ok (.aload_n 2, 1) := by decide +kernel
theorem dL_law_771 : decode code 771 = .ok (.invokevirtual 97, 3) := by decide +kernel
theorem dL_law_774 : decode code 774 = .ok (.if_icmp .eq 31, 3) := by decide +kernel
theorem dL_law_779 : decode code 779 = .ok (.aload_n 1, 1) := by decide +kernel
theorem dL_law_780 : decode code 780 = .ok (.invokevirtual 98, 3) := by decide +kernel
theorem dL_law_783 : decode code 783 = .ok (.aload_n 2, 1) := by decide +kernel
theorem dL_law_784 : decode code 784 = .ok (.invokevirtual 101, 3) := by decide +kernel
theorem dL_law_787 : decode code 787 = .ok (.if_icmp .eq 18, 3) := by decide +kernel
theorem dL_law_792 : decode code 792 = .ok (.aload_n 1, 1) := by decide +kernel
theorem dL_law_793 : decode code 793 = .ok (.invokevirtual 102, 3) := by decide +kernel
theorem dL_law_796 : decode code 796 = .ok (.aload_n 2, 1) := by decide +kernel
theorem dL_law_797 : decode code 797 = .ok (.invokevirtual 105, 3) := by decide +kernel
theorem dL_law_800 : decode code 800 = .ok (.if_icmp .eq 5, 3) := by decide +kernel
theorem dL_law_805 : decode code 805 = .ok (.iinc 3 11, 3) := by decide +kernel
theorem dL_law_808 : decode code 808 = .ok (.goto (-790), 3) := by decide +kernel
theorem dL_law_811 : decode code 811 = .ok (.iconst 1, 1) := by decide +kernel
theorem dL_law_812 : decode code 812 = .ok (.ireturn, 1) := by decide +kernel
end
section
/-! RULES WHOSE NEW HEAP HAS A NAME: what is in it, and that the rest is as it was -/
theorem go_iincC {G : xG} {M : xM} {pc pc' : Nat} {L : xL} {S : List Value} {h : xH} {P : Option Value → xH → Prop} {L' : xL} {i : Nat} {n : Int} {x kk : Int32} (d : decode (xBy M) pc = .ok (.iinc i n, 3)) (e : pc + 3 = pc') (hl : L[i]? = some (some (.int x))) (hv : Int32.ofInt n = kk) (hn : i < xMl M) (hs : xs1 (.int (x + kk)) i L = L') (k : Go G M pc' L' S h P) : Go G M pc L S h P :=
  go_iinc d e hl (by rw [hv]) hn hs k
abbrev xFr (h h1 : xH) (a : Nat) : Prop := ∀ b, b ≠ a → h1.2 b = h.2 b
theorem xput_fr (h : xH) (a : Nat) (c : xC) : xFr h (xput h a c) a := fun _ n => xput_ne h c n
theorem go_putfK {G : xG} {M : xM} {pc pc' : Nat} {L : xL} {S : List Value} {h : xH} {P : Option Value → xH → Prop} {index ci kf a : Nat} {fs : List Value} {v : Value} {ty : FieldType} {fin : Bool} (d : decode (xBy M) pc = .ok (.putfield index, 3)) (e : pc + 3 = pc') (g : xPf (xOwn M) index ci kf ty fin) (hf : fin = true → (xNm M).name = "<init>") (hh : h.2 a = some (.inr (ci, fs))) (hl0 : kf < fs.length) (hn : narrow ty (xv G v) = xv G v) (hft : fits ty (xv G v) = true)
    (k : ∀ h1 : xH, h1.1 = h.1 → h1.2 a = some (.inr (ci, fs.set kf v)) → xFr h h1 a → Go G M pc' L S h1 P) : Go G M pc L (v :: .ref a :: S) h P :=
  go_putf d e g hf hh hl0 hn hft (k _ rfl (xput_at _ _ _) (xput_fr _ _ _))
theorem go_newK {G : xG} {M : xM} {pc pc' : Nat} {L : xL} {S : List Value} {h : xH} {P : Option Value → xH → Prop} {index ci N n s : Nat} {fs : List Value} (d : decode (xBy M) pc = .ok (.new index, 3)) (e : pc + 3 = pc') (g : xNw (xOwn M) index ci N fs) (hz : h.1 = (n, s))
    (k : ∀ h1 : xH, h1.1 = (n + 1, s + N) → h1.2 n = some (.inr (ci, fs)) → xFr h h1 n → Go G M pc' L (.ref n :: S) h1 P) : Go G M pc L S h P := by
  have h1 : h.1.1 = n := by rw [hz]
  have h2 : h.1.2 = s := by rw [hz]
  subst h1; subst h2
  exact go_new d e g (k _ rfl (xnew_at _ _ _) (fun b nb => xnew_ne _ _ _ nb))
theorem go_newarrayK {G : xG} {M : xM} {pc pc' : Nat} {L : xL} {S : List Value} {h : xH} {P : Option Value → xH → Prop} {atype : ArrayType} {t N n s : Nat} {i : Int32} (d : decode (xBy M) pc = .ok (.newarray atype, 2)) (e : pc + 2 = pc') (ht : newarray.typeOf atype = xty t) (h4 : t < 4) (hw : Cond.arrayClass (xty t) ∈ xW) (hi : ¬ i < 0) (hn : i.toNatClampNeg = N) (hs : N ≤ 60000) (hz : h.1 = (n, s))
    (k : ∀ h1 : xH, h1.1 = (n + 1, s + N) → h1.2 n = some (.inl (t, xdA t N)) → xFr h h1 n → Go G M pc' L (.ref n :: S) h1 P) : Go G M pc L (.int i :: S) h P := by
  have h1 : h.1.1 = n := by rw [hz]
  have h2 : h.1.2 = s := by rw [hz]
  subst h1; subst h2
  exact go_newarray d e ht h4 hw hi hn hs (k _ rfl (xnew_at _ _ _) (fun b nb => xnew_ne _ _ _ nb))
theorem go_anewarrayK {G : xG} {M : xM} {pc pc' : Nat} {L : xL} {S : List Value} {h : xH} {P : Option Value → xH → Prop} {index t N n s : Nat} {C : String} {i : Int32} (d : decode (xBy M) pc = .ok (.anewarray index, 3)) (e : pc + 3 = pc') (ht : 4 ≤ t ∧ t < 8) (hC : xty t = .object C) (hw : Cond.classLink (xOwn M) index C ∈ xW) (hi : ¬ i < 0) (hn : i.toNatClampNeg = N) (hs : N ≤ 60000) (hz : h.1 = (n, s))
    (k : ∀ h1 : xH, h1.1 = (n + 1, s + N) → h1.2 n = some (.inl (t, xdA t N)) → xFr h h1 n → Go G M pc' L (.ref n :: S) h1 P) : Go G M pc L (.int i :: S) h P := by
  have h1 : h.1.1 = n := by rw [hz]
  have h2 : h.1.2 = s := by rw [hz]
  subst h1; subst h2
  exact go_anewarray d e ht hC hw hi hn hs (k _ rfl (xnew_at _ _ _) (fun b nb => xnew_ne _ _ _ nb))
theorem go_iastoreK {G : xG} {M : xM} {pc pc' : Nat} {L : xL} {S : List Value} {h : xH} {P : Option Value → xH → Prop} {a n : Nat} {f : Nat → Int32} {i x : Int32} (d : decode (xBy M) pc = .ok (.iastore, 1)) (e : pc + 1 = pc') (hh : h.2 a = some (.inl (0, n, .inl f))) (hin : vp_in i n) (k : ∀ h1 : xH, h1.1 = h.1 → h1.2 a = some (.inl (0, n, .inl (upd f i.toNatClampNeg x))) → xFr h h1 a → Go G M pc' L S h1 P) : Go G M pc L (.int x :: .int i :: .ref a :: S) h P :=
  go_iastore d e hh hin (k _ rfl (xput_at _ _ _) (xput_fr _ _ _))
theorem go_bastoreK {G : xG} {M : xM} {pc pc' : Nat} {L : xL} {S : List Value} {h : xH} {P : Option Value → xH → Prop} {a n : Nat} {f : Nat → Int32} {i x : Int32} (d : decode (xBy M) pc = .ok (.bastore, 1)) (e : pc + 1 = pc') (hh : h.2 a = some (.inl (1, n, .inl f))) (hin : vp_in i n) (k : ∀ h1 : xH, h1.1 = h.1 → h1.2 a = some (.inl (1, n, .inl (upd f i.toNatClampNeg (vp_nar .byte x)))) → xFr h h1 a → Go G M pc' L S h1 P) : Go G M pc L (.int x :: .int i :: .ref a :: S) h P :=
  go_bastore d e hh hin (k _ rfl (xput_at _ _ _) (xput_fr _ _ _))
theorem go_zastoreK {G : xG} {M : xM} {pc pc' : Nat} {L : xL} {S : List Value} {h : xH} {P : Option Value → xH → Prop} {a n : Nat} {f : Nat → Int32} {i x : Int32} (d : decode (xBy M) pc = .ok (.bastore, 1)) (e : pc + 1 = pc') (hh : h.2 a = some (.inl (3, n, .inl f))) (hin : vp_in i n) (k : ∀ h1 : xH, h1.1 = h.1 → h1.2 a = some (.inl (3, n, .inl (upd f i.toNatClampNeg (vp_nar .boolean x)))) → xFr h h1 a → Go G M pc' L S h1 P) : Go G M pc L (.int x :: .int i :: .ref a :: S) h P :=
  go_zastore d e hh hin (k _ rfl (xput_at _ _ _) (xput_fr _ _ _))
theorem go_lastoreK {G : xG} {M : xM} {pc pc' : Nat} {L : xL} {S : List Value} {h : xH} {P : Option Value → xH → Prop} {a n : Nat} {f : Nat → Int64} {i : Int32} {x : Int64} (d : decode (xBy M) pc = .ok (.lastore, 1)) (e : pc + 1 = pc') (hh : h.2 a = some (.inl (2, n, .inr (.inl f)))) (hin : vp_in i n) (k : ∀ h1 : xH, h1.1 = h.1 → h1.2 a = some (.inl (2, n, .inr (.inl (vp_updL f i.toNatClampNeg x)))) → xFr h h1 a → Go G M pc' L S h1 P) : Go G M pc L (.long x :: .int i :: .ref a :: S) h P :=
  go_lastore d e hh hin (k _ rfl (xput_at _ _ _) (xput_fr _ _ _))
theorem go_aastoreK {G : xG} {M : xM} {pc pc' : Nat} {L : xL} {S : List Value} {h : xH} {P : Option Value → xH → Prop} {a n t b ci N : Nat} {C : String} {T : u_T} {vs : List Value} {f : Nat → Option Nat} {i : Int32} (d : decode (xBy M) pc = .ok (.aastore, 1)) (e : pc + 1 = pc') (ht : t < 8) (hC : xty t = .object C) (hc : vwCl[ci]? = some (C, T, N)) (hh : h.2 a = some (.inl (t, n, .inr (.inr (.inr (.inr f)))))) (hb : h.2 b = some (.inr (ci, vs))) (hin : vp_in i n) (k : ∀ h1 : xH, h1.1 = h.1 → h1.2 a = some (.inl (t, n, .inr (.inr (.inr (.inr (va_up f i.toNatClampNeg (some b))))))) → xFr h h1 a → Go G M pc' L S h1 P) : Go G M pc L (.ref b :: .int i :: .ref a :: S) h P :=
  go_aastore d e ht hC hc hh hb hin (k _ rfl (xput_at _ _ _) (xput_fr _ _ _))
end
section
/-! OBJECTS OF MANY FIELDS: the fields as a function -/
def mkF (F : Nat → Value) (N : Nat) : List Value := (List.range N).map F
theorem mkF_get (F : Nat → Value) {N k : Nat} (h : k < N) : (mkF F N)[k]? = some (F k) := by simp [mkF, h]
theorem mkF_len (F : Nat → Value) (N : Nat) : (mkF F N).length = N := by simp [mkF]
theorem mkF_set (F : Nat → Value) {N k : Nat} (v : Value) : (mkF F N).set k v = mkF (updV F k v) N := by
  apply List.ext_getElem?
  intro i
  rw [List.getElem?_set, mkF_len]
  by_cases h : k = i
  · subst h
    by_cases hk : k < N
    · rw [if_pos rfl, if_pos hk, mkF_get _ hk]; simp [updV]
    · rw [if_pos rfl, if_neg hk]; simp [mkF, hk]
  · rw [if_neg h]
    by_cases hi : i < N
    · rw [mkF_get _ hi, mkF_get _ hi]; simp [updV, Ne.symm h]
    · simp [mkF, hi]
theorem go_getfF {G : xG} {M : xM} {pc pc' : Nat} {L : xL} {S : List Value} {h : xH} {P : Option Value → xH → Prop} {index ci kf a N : Nat} {F : Nat → Value} {v : Value} (d : decode (xBy M) pc = .ok (.getfield index, 3)) (e : pc + 3 = pc') (g : xGf (xOwn M) index ci kf) (hh : h.2 a = some (.inr (ci, mkF F N))) (hk : kf < N) (hv : F kf = v) (k : Go G M pc' L (v :: S) h P) : Go G M pc L (.ref a :: S) h P :=
  go_getf d e g hh ((mkF_get F hk).trans (congrArg some hv)) k
theorem go_putfF {G : xG} {M : xM} {pc pc' : Nat} {L : xL} {S : List Value} {h : xH} {P : Option Value → xH → Prop} {index ci kf a N : Nat} {F : Nat → Value} {v : Value} {ty : FieldType} {fin : Bool} (d : decode (xBy M) pc = .ok (.putfield index, 3)) (e : pc + 3 = pc') (g : xPf (xOwn M) index ci kf ty fin) (hf : fin = true → (xNm M).name = "<init>") (hh : h.2 a = some (.inr (ci, mkF F N))) (hk : kf < N) (hn : narrow ty (xv G v) = xv G v) (hft : fits ty (xv G v) = true)
    (k : ∀ h1 : xH, h1.1 = h.1 → h1.2 a = some (.inr (ci, mkF (updV F kf v) N)) → xFr h h1 a → Go G M pc' L S h1 P) : Go G M pc L (v :: .ref a :: S) h P :=
  go_putfK d e g hf hh (by rw [mkF_len]; exact hk) hn hft (fun h1 a1 b1 c1 => k h1 a1 (by rw [b1, mkF_set]) c1)
end
section
/-! Table: its constructor, indexOf -/
set_option maxRecDepth 100000 in
theorem c_Table_init {G : xG} {h : xH} {a n s : Nat} (hz : h.1 = (n, s)) (ha : a < n) (hh : h.2 a = some (.inr (7, [.null, .null, .int 0]))) : Ca G mX8_init [.ref a] h (fun v h' => v = none ∧ h'.1 = (n + 2, s + 400) ∧ h'.2 a = some (.inr (7, [.ref n, .ref (n + 1), .int 0])) ∧ h'.2 n = some (.inl (0, 200, .inl (fun _ => 0))) ∧ h'.2 (n + 1) = some (.inl (4, 200, .inr (.inr (.inr (.inr (fun _ => none)))))) ∧ ∀ b, (b < n ∧ b ≠ a) → h'.2 b = h.2 b) := by
  refine Ca.of rfl (Nat.le_of_ble_eq_true rfl) ?_
  have hfr : ∀ b, (b < n ∧ b ≠ a) → h.2 b = h.2 b := fun _ _ => rfl
  first | refine go_aload_n (i := 0) (pc' := 1) dX8_init_0 rfl rfl rfl ?_ | refine go_aloadX_n (i := 0) (pc' := 1) dX8_init_0 rfl rfl rfl ?_ | refine go_aload_nN (i := 0) (pc' := 1) dX8_init_0 rfl rfl rfl ?_
  refine go_objInit (pc' := 4) dX8_init_1 rfl wd_186 wd_28 wd_29 (by decide) (Nat.le_of_ble_eq_true rfl) ?_
  first | refine go_aload_n (i := 0) (pc' := 5) dX8_init_4 rfl rfl rfl ?_ | refine go_aloadX_n (i := 0) (pc' := 5) dX8_init_4 rfl rfl rfl ?_ | refine go_aload_nN (i := 0) (pc' := 5) dX8_init_4 rfl rfl rfl ?_
  refine go_sipush (v := 200) (pc' := 8) dX8_init_5 rfl (by decide) ?_
  refine go_newarrayK (t := 0) (N := 200) (pc' := 10) dX8_init_8 rfl rfl (by decide) wd_149 (by decide) (by decide) (by decide) hz (fun hp1 zp1 cp1 fp1 => ?_)
  have hz := zp1
  have hh := (fp1 _ (by omega)).trans hh
  have hfr : ∀ b, (b < n ∧ b ≠ a) → hp1.2 b = h.2 b := fun b hb => (fp1 b (by omega)).trans (hfr b hb)
  have hi : hp1.2 _ = some (.inl (0, 200, .inl (fun _ => 0))) := cp1
  refine go_putfK (pc' := 13) dX8_init_10 rfl pf_LandBase_Table_9 (fun _ => rfl) hh (Nat.le_of_ble_eq_true rfl) rfl rfl (fun hp2 zp2 cp2 fp2 => ?_)
  dsimp only [List.set] at cp2
  have hz := zp2.trans hz
  have hi := (fp2 _ (by omega)).trans hi
  have hfr : ∀ b, (b < n ∧ b ≠ a) → hp2.2 b = h.2 b := fun b hb => (fp2 b (by omega)).trans (hfr b hb)
  have hh := cp2
  first | refine go_aload_n (i := 0) (pc' := 14) dX8_init_13 rfl rfl rfl ?_ | refine go_aloadX_n (i := 0) (pc' := 14) dX8_init_13 rfl rfl rfl ?_ | refine go_aload_nN (i := 0) (pc' := 14) dX8_init_13 rfl rfl rfl ?_
  refine go_sipush (v := 200) (pc' := 17) dX8_init_14 rfl (by decide) ?_
  refine go_anewarrayK (t := 4) (N := 200) (pc' := 20) dX8_init_17 rfl (by decide) rfl wd_187 (by decide) (by decide) (by decide) hz (fun hp3 zp3 cp3 fp3 => ?_)
  have hz := zp3
  have hh := (fp3 _ (by omega)).trans hh
  have hi := (fp3 _ (by omega)).trans hi
  have hfr : ∀ b, (b < n ∧ b ≠ a) → hp3.2 b = h.2 b := fun b hb => (fp3 b (by omega)).trans (hfr b hb)
  have hs : hp3.2 _ = some (.inl (4, 200, .inr (.inr (.inr (.inr (fun _ => none)))))) := cp3
  refine go_putfK (pc' := 23) dX8_init_20 rfl pf_LandBase_Table_17 (fun _ => rfl) hh (Nat.le_of_ble_eq_true rfl) rfl rfl (fun hp4 zp4 cp4 fp4 => ?_)
  dsimp only [List.set] at cp4
  have hz := zp4.trans hz
  have hi := (fp4 _ (by omega)).trans hi
  have hs := (fp4 _ (by omega)).trans hs
  have hfr : ∀ b, (b < n ∧ b ≠ a) → hp4.2 b = h.2 b := fun b hb => (fp4 b (by omega)).trans (hfr b hb)
  have hh := cp4
  first | refine go_aload_n (i := 0) (pc' := 24) dX8_init_23 rfl rfl rfl ?_ | refine go_aloadX_n (i := 0) (pc' := 24) dX8_init_23 rfl rfl rfl ?_ | refine go_aload_nN (i := 0) (pc' := 24) dX8_init_23 rfl rfl rfl ?_
  refine go_iconst (v := 0) (pc' := 25) dX8_init_24 rfl (by decide) ?_
  refine go_putfK (pc' := 28) dX8_init_25 rfl pf_LandBase_Table_21 (fun h => by cases h) hh (Nat.le_of_ble_eq_true rfl) rfl rfl (fun hp5 zp5 cp5 fp5 => ?_)
  dsimp only [List.set] at cp5
  have hz := zp5.trans hz
  have hi := (fp5 _ (by omega)).trans hi
  have hs := (fp5 _ (by omega)).trans hs
  have hfr : ∀ b, (b < n ∧ b ≠ a) → hp5.2 b = h.2 b := fun b hb => (fp5 b (by omega)).trans (hfr b hb)
  have hh := cp5
  exact Go.ret (v := none) dX8_init_28 rfl ⟨trivial,rfl,hz,hh,hi,hs,hfr⟩
/-- where id stands among the first n of f -/
def ixOf (f : Nat → Int32) (id : Int32) : Nat → Nat → Option Nat
  | _, 0 => none
  | i, n + 1 => if f i = id then some i else ixOf f id (i + 1) n
def ixI : Option Nat → Int32
  | none => -1
  | some i => nI i
set_option maxRecDepth 100000 in
theorem c_Table_indexOf {G : xG} {h : xH} {a ai as : Nat} {n : Nat} {f : Nat → Int32} {id : Int32} (hn : n ≤ 200) (hh : h.2 a = some (.inr (7, [.ref ai, .ref as, .int (nI n)]))) (hi : h.2 ai = some (.inl (0, 200, .inl f))) : Ca G mX8_indexOf [.ref a, .int id] h (fun v h' => v = some (.int (ixI (ixOf f id 0 n))) ∧ h' = h) := by
  refine Ca.of rfl (Nat.le_of_ble_eq_true rfl) ?_
  have loop : ∀ (m i : Nat), i + m = n → Go G mX8_indexOf 2 [some (.ref a), some (.int id), some (.int (nI i))] [] h (fun v h' => xRok (xRt mX8_indexOf) v ∧ v = some (.int (ixI (ixOf f id i m))) ∧ h' = h) := by
    intro m
    induction m with
    | zero =>
      intro i him
      refine go_iload_n (i := 2) (pc' := 3) dX8_indexOf_2 rfl rfl rfl ?_
      first | refine go_aload_n (i := 0) (pc' := 4) dX8_indexOf_3 rfl rfl rfl ?_ | refine go_aloadX_n (i := 0) (pc' := 4) dX8_indexOf_3 rfl rfl rfl ?_ | refine go_aload_nN (i := 0) (pc' := 4) dX8_indexOf_3 rfl rfl rfl ?_
      refine go_getf (pc' := 7) dX8_indexOf_4 rfl gf_LandBase_Table_21 hh rfl ?_
      refine go_icmp_ge (pc' := 10) (tgt := 28) dX8_indexOf_7 (by decide) rfl (fun c1 => ?_) (fun c1 => ?_)
      · refine go_iconst (v := (-1)) (pc' := 29) dX8_indexOf_28 rfl (by decide) ?_
        exact Go.ret (v := some (.int _)) dX8_indexOf_29 ⟨_, rfl⟩ ⟨rfl,rfl,rfl⟩
      · exact absurd (nI_le (by omega) (by omega)) c1
    | succ m ih =>
      intro i him
      have hin : vp_in (nI i) 200 := vp_in_nI (by omega) (by omega)
      have hc : (nI i).toNatClampNeg = i := nI_clamp (by omega)
      refine go_iload_n (i := 2) (pc' := 3) dX8_indexOf_2 rfl rfl rfl ?_
      first | refine go_aload_n (i := 0) (pc' := 4) dX8_indexOf_3 rfl rfl rfl ?_ | refine go_aloadX_n (i := 0) (pc' := 4) dX8_indexOf_3 rfl rfl rfl ?_ | refine go_aload_nN (i := 0) (pc' := 4) dX8_indexOf_3 rfl rfl rfl ?_
      refine go_getf (pc' := 7) dX8_indexOf_4 rfl gf_LandBase_Table_21 hh rfl ?_
      refine go_icmp_ge (pc' := 10) (tgt := 28) dX8_indexOf_7 (by decide) rfl (fun c1 => ?_) (fun c1 => ?_)
      · exact absurd c1 (nI_ge (by omega) (by omega))
      · first | refine go_aload_n (i := 0) (pc' := 11) dX8_indexOf_10 rfl rfl rfl ?_ | refine go_aloadX_n (i := 0) (pc' := 11) dX8_indexOf_10 rfl rfl rfl ?_ | refine go_aload_nN (i := 0) (pc' := 11) dX8_indexOf_10 rfl rfl rfl ?_
        refine go_getf (pc' := 14) dX8_indexOf_11 rfl gf_LandBase_Table_9 hh rfl ?_
        refine go_iload_n (i := 2) (pc' := 15) dX8_indexOf_14 rfl rfl rfl ?_
        refine go_iaload (pc' := 16) dX8_indexOf_15 rfl hi hin ?_
        refine go_iload_n (i := 1) (pc' := 17) dX8_indexOf_16 rfl rfl rfl ?_
        rw [hc]
        refine go_icmp_ne (pc' := 20) (tgt := 22) dX8_indexOf_17 (by decide) rfl (fun c2 => ?_) (fun c2 => ?_)
        · refine go_iincC (kk := 1) (pc' := 25) dX8_indexOf_22 rfl rfl (by decide) (by decide) rfl ?_
          refine go_goto (pc' := 0) (tgt := 2) dX8_indexOf_25 (by decide) ?_
          rw [nI_1]
          have := ih (i + 1) (by omega)
          rw [ixOf, if_neg c2]
          exact this
        · refine go_iload_n (i := 2) (pc' := 21) dX8_indexOf_20 rfl rfl rfl ?_
          rw [ixOf, if_pos c2]
          exact Go.ret (v := some (.int _)) dX8_indexOf_21 ⟨_, rfl⟩ ⟨rfl,rfl,rfl⟩
  refine go_iconst (v := 0) (pc' := 1) dX8_indexOf_0 rfl (by decide) ?_
  refine go_istore_n (i := 2) (pc' := 2) dX8_indexOf_1 rfl rfl (by decide) rfl ?_
  exact loop n 0 (by omega)
end
section
/-! CONSTRUCTORS of the parts -/
set_option maxRecDepth 100000 in
theorem c_Tape_init {G : xG} {h : xH} {a n s : Nat} (hz : h.1 = (n, s)) (ha : a < n) (hh : h.2 a = some (.inr (8, [.null, .int 0, .int 0, .int 0, .int 0, .int 0]))) : Ca G mX9_init [.ref a] h (fun v h' => v = none ∧ h'.1 = (n + 1, s + 4000) ∧ h'.2 a = some (.inr (8, [.ref n, .int 0, .int 0, .int 0, .int 0, .int 0])) ∧ h'.2 n = some (.inl (1, 4000, .inl (fun _ => 0))) ∧ ∀ b, (b < n ∧ b ≠ a) → h'.2 b = h.2 b) := by
  refine Ca.of rfl (Nat.le_of_ble_eq_true rfl) ?_
  have hfr : ∀ b, (b < n ∧ b ≠ a) → h.2 b = h.2 b := fun _ _ => rfl
  first | refine go_aload_n (i := 0) (pc' := 1) dX9_init_0 rfl rfl rfl ?_ | refine go_aloadX_n (i := 0) (pc' := 1) dX9_init_0 rfl rfl rfl ?_ | refine go_aload_nN (i := 0) (pc' := 1) dX9_init_0 rfl rfl rfl ?_
  refine go_objInit (pc' := 4) dX9_init_1 rfl wd_35 wd_28 wd_29 (by decide) (Nat.le_of_ble_eq_true rfl) ?_
  first | refine go_aload_n (i := 0) (pc' := 5) dX9_init_4 rfl rfl rfl ?_ | refine go_aloadX_n (i := 0) (pc' := 5) dX9_init_4 rfl rfl rfl ?_ | refine go_aload_nN (i := 0) (pc' := 5) dX9_init_4 rfl rfl rfl ?_
  refine go_sipush (v := 4000) (pc' := 8) dX9_init_5 rfl (by decide) ?_
  refine go_newarrayK (t := 1) (N := 4000) (pc' := 10) dX9_init_8 rfl rfl (by decide) wd_60 (by decide) (by decide) (by decide) hz (fun hp1 zp1 cp1 fp1 => ?_)
  have hz := zp1
  have hh := (fp1 _ (by omega)).trans hh
  have hfr : ∀ b, (b < n ∧ b ≠ a) → hp1.2 b = h.2 b := fun b hb => (fp1 b (by omega)).trans (hfr b hb)
  have hi : hp1.2 _ = some (.inl (1, 4000, .inl (fun _ => 0))) := cp1
  refine go_putfK (pc' := 13) dX9_init_10 rfl pf_LandBase_Tape_9 (fun _ => rfl) hh (Nat.le_of_ble_eq_true rfl) rfl rfl (fun hp2 zp2 cp2 fp2 => ?_)
  dsimp only [List.set] at cp2
  have hz := zp2.trans hz
  have hi := (fp2 _ (by omega)).trans hi
  have hfr : ∀ b, (b < n ∧ b ≠ a) → hp2.2 b = h.2 b := fun b hb => (fp2 b (by omega)).trans (hfr b hb)
  have hh := cp2
  first | refine go_aload_n (i := 0) (pc' := 14) dX9_init_13 rfl rfl rfl ?_ | refine go_aloadX_n (i := 0) (pc' := 14) dX9_init_13 rfl rfl rfl ?_ | refine go_aload_nN (i := 0) (pc' := 14) dX9_init_13 rfl rfl rfl ?_
  refine go_iconst (v := 0) (pc' := 15) dX9_init_14 rfl (by decide) ?_
  refine go_putfK (pc' := 18) dX9_init_15 rfl pf_LandBase_Tape_15 (fun h => by cases h) hh (Nat.le_of_ble_eq_true rfl) rfl rfl (fun hp3 zp3 cp3 fp3 => ?_)
  dsimp only [List.set] at cp3
  have hz := zp3.trans hz
  have hi := (fp3 _ (by omega)).trans hi
  have hfr : ∀ b, (b < n ∧ b ≠ a) → hp3.2 b = h.2 b := fun b hb => (fp3 b (by omega)).trans (hfr b hb)
  have hh := cp3
  exact Go.ret (v := none) dX9_init_18 rfl ⟨trivial,rfl,hz,hh,hi,hfr⟩
/-- a shape of the system: its cell and its four rows stand one behind the other -/
def CSh (h : xH) (a : Nat) (kind size rc tl x0 y0 x1 y1 ho : Int32) (xs ys rs il : Nat → Int32) : Prop :=
  h.2 a = some (.inr (6, [.int kind, .int size, .int rc, .int tl, .int x0, .int y0, .int x1, .int y1, .int ho, .ref (a + 1), .ref (a + 2), .ref (a + 3), .ref (a + 4)])) ∧ h.2 (a + 1) = some (.inl (0, 40, .inl xs)) ∧ h.2 (a + 2) = some (.inl (0, 40, .inl ys)) ∧ h.2 (a + 3) = some (.inl (0, 8, .inl rs)) ∧ h.2 (a + 4) = some (.inl (3, 40, .inl il))
def CSh0 (h : xH) (a : Nat) : Prop := CSh h a 0 0 0 0 0 0 0 0 0 (fun _ => 0) (fun _ => 0) (fun _ => 0) (fun _ => 0)
theorem CSh0.kept {h h1 : xH} {a : Nat} (k : CSh0 h a) (f : ∀ b, a ≤ b → b < a + 5 → h1.2 b = h.2 b) : CSh0 h1 a :=
  ⟨(f a (by omega) (by omega)).trans k.1, (f (a + 1) (by omega) (by omega)).trans k.2.1, (f (a + 2) (by omega) (by omega)).trans k.2.2.1, (f (a + 3) (by omega) (by omega)).trans k.2.2.2.1, (f (a + 4) (by omega) (by omega)).trans k.2.2.2.2⟩
set_option maxRecDepth 100000 in
theorem c_Shape_init {G : xG} {h : xH} {a n s : Nat} (hz : h.1 = (n, s)) (ha : a + 1 = n) (hh : h.2 a = some (.inr (6, [.int 0, .int 0, .int 0, .int 0, .int 0, .int 0, .int 0, .int 0, .int 0, .null, .null, .null, .null]))) : Ca G mX7_init [.ref a] h (fun v h' => v = none ∧ h'.1 = (n + 4, s + 128) ∧ CSh0 h' a ∧ ∀ b, b < a → h'.2 b = h.2 b) := by
  refine Ca.of rfl (Nat.le_of_ble_eq_true rfl) ?_
  subst ha
  have hfr : ∀ b, (b < a) → h.2 b = h.2 b := fun _ _ => rfl
  first | refine go_aload_n (i := 0) (pc' := 1) dX7_init_0 rfl rfl rfl ?_ | refine go_aloadX_n (i := 0) (pc' := 1) dX7_init_0 rfl rfl rfl ?_ | refine go_aload_nN (i := 0) (pc' := 1) dX7_init_0 rfl rfl rfl ?_
  refine go_objInit (pc' := 4) dX7_init_1 rfl wd_72 wd_28 wd_29 (by decide) (Nat.le_of_ble_eq_true rfl) ?_
  first | refine go_aload_n (i := 0) (pc' := 5) dX7_init_4 rfl rfl rfl ?_ | refine go_aloadX_n (i := 0) (pc' := 5) dX7_init_4 rfl rfl rfl ?_ | refine go_aload_nN (i := 0) (pc' := 5) dX7_init_4 rfl rfl rfl ?_
  refine go_bipush (v := 40) (pc' := 7) dX7_init_5 rfl (by decide) ?_
  refine go_newarrayK (t := 0) (N := 40) (pc' := 9) dX7_init_7 rfl rfl (by decide) wd_149 (by decide) (by decide) (by decide) hz (fun hp1 zp1 cp1 fp1 => ?_)
  have hz := zp1
  have hh := (fp1 _ (by omega)).trans hh
  have hfr : ∀ b, (b < a) → hp1.2 b = h.2 b := fun b hb => (fp1 b (by omega)).trans (hfr b hb)
  have hx : hp1.2 _ = some (.inl (0, 40, .inl (fun _ => 0))) := cp1
  refine go_putfK (pc' := 12) dX7_init_9 rfl pf_LandBase_Shape_9 (fun _ => rfl) hh (Nat.le_of_ble_eq_true rfl) rfl rfl (fun hp2 zp2 cp2 fp2 => ?_)
  dsimp only [List.set] at cp2
  have hz := zp2.trans hz
  have hx := (fp2 _ (by omega)).trans hx
  have hfr : ∀ b, (b < a) → hp2.2 b = h.2 b := fun b hb => (fp2 b (by omega)).trans (hfr b hb)
  have hh := cp2
  first | refine go_aload_n (i := 0) (pc' := 13) dX7_init_12 rfl rfl rfl ?_ | refine go_aloadX_n (i := 0) (pc' := 13) dX7_init_12 rfl rfl rfl ?_ | refine go_aload_nN (i := 0) (pc' := 13) dX7_init_12 rfl rfl rfl ?_
  refine go_bipush (v := 40) (pc' := 15) dX7_init_13 rfl (by decide) ?_
  refine go_newarrayK (t := 0) (N := 40) (pc' := 17) dX7_init_15 rfl rfl (by decide) wd_149 (by decide) (by decide) (by decide) hz (fun hp3 zp3 cp3 fp3 => ?_)
  have hz := zp3
  have hh := (fp3 _ (by omega)).trans hh
  have hx := (fp3 _ (by omega)).trans hx
  have hfr : ∀ b, (b < a) → hp3.2 b = h.2 b := fun b hb => (fp3 b (by omega)).trans (hfr b hb)
  have hy : hp3.2 _ = some (.inl (0, 40, .inl (fun _ => 0))) := cp3
  refine go_putfK (pc' := 20) dX7_init_17 rfl pf_LandBase_Shape_15 (fun _ => rfl) hh (Nat.le_of_ble_eq_true rfl) rfl rfl (fun hp4 zp4 cp4 fp4 => ?_)
  dsimp only [List.set] at cp4
  have hz := zp4.trans hz
  have hx := (fp4 _ (by omega)).trans hx
  have hy := (fp4 _ (by omega)).trans hy
  have hfr : ∀ b, (b < a) → hp4.2 b = h.2 b := fun b hb => (fp4 b (by omega)).trans (hfr b hb)
  have hh := cp4
  first | refine go_aload_n (i := 0) (pc' := 21) dX7_init_20 rfl rfl rfl ?_ | refine go_aloadX_n (i := 0) (pc' := 21) dX7_init_20 rfl rfl rfl ?_ | refine go_aload_nN (i := 0) (pc' := 21) dX7_init_20 rfl rfl rfl ?_
  refine go_bipush (v := 8) (pc' := 23) dX7_init_21 rfl (by decide) ?_
  refine go_newarrayK (t := 0) (N := 8) (pc' := 25) dX7_init_23 rfl rfl (by decide) wd_149 (by decide) (by decide) (by decide) hz (fun hp5 zp5 cp5 fp5 => ?_)
  have hz := zp5
  have hh := (fp5 _ (by omega)).trans hh
  have hx := (fp5 _ (by omega)).trans hx
  have hy := (fp5 _ (by omega)).trans hy
  have hfr : ∀ b, (b < a) → hp5.2 b = h.2 b := fun b hb => (fp5 b (by omega)).trans (hfr b hb)
  have hr : hp5.2 _ = some (.inl (0, 8, .inl (fun _ => 0))) := cp5
  refine go_putfK (pc' := 28) dX7_init_25 rfl pf_LandBase_Shape_18 (fun _ => rfl) hh (Nat.le_of_ble_eq_true rfl) rfl rfl (fun hp6 zp6 cp6 fp6 => ?_)
  dsimp only [List.set] at cp6
  have hz := zp6.trans hz
  have hx := (fp6 _ (by omega)).trans hx
  have hy := (fp6 _ (by omega)).trans hy
  have hr := (fp6 _ (by omega)).trans hr
  have hfr : ∀ b, (b < a) → hp6.2 b = h.2 b := fun b hb => (fp6 b (by omega)).trans (hfr b hb)
  have hh := cp6
  first | refine go_aload_n (i := 0) (pc' := 29) dX7_init_28 rfl rfl rfl ?_ | refine go_aloadX_n (i := 0) (pc' := 29) dX7_init_28 rfl rfl rfl ?_ | refine go_aload_nN (i := 0) (pc' := 29) dX7_init_28 rfl rfl rfl ?_
  refine go_bipush (v := 40) (pc' := 31) dX7_init_29 rfl (by decide) ?_
  refine go_newarrayK (t := 3) (N := 40) (pc' := 33) dX7_init_31 rfl rfl (by decide) wd_150 (by decide) (by decide) (by decide) hz (fun hp7 zp7 cp7 fp7 => ?_)
  have hz := zp7
  have hh := (fp7 _ (by omega)).trans hh
  have hx := (fp7 _ (by omega)).trans hx
  have hy := (fp7 _ (by omega)).trans hy
  have hr := (fp7 _ (by omega)).trans hr
  have hfr : ∀ b, (b < a) → hp7.2 b = h.2 b := fun b hb => (fp7 b (by omega)).trans (hfr b hb)
  have hl : hp7.2 _ = some (.inl (3, 40, .inl (fun _ => 0))) := cp7
  refine go_putfK (pc' := 36) dX7_init_33 rfl pf_LandBase_Shape_21 (fun _ => rfl) hh (Nat.le_of_ble_eq_true rfl) rfl rfl (fun hp8 zp8 cp8 fp8 => ?_)
  dsimp only [List.set] at cp8
  have hz := zp8.trans hz
  have hx := (fp8 _ (by omega)).trans hx
  have hy := (fp8 _ (by omega)).trans hy
  have hr := (fp8 _ (by omega)).trans hr
  have hl := (fp8 _ (by omega)).trans hl
  have hfr : ∀ b, (b < a) → hp8.2 b = h.2 b := fun b hb => (fp8 b (by omega)).trans (hfr b hb)
  have hh := cp8
  exact Go.ret (v := none) dX7_init_36 rfl ⟨trivial,rfl,hz,⟨hh,hx,hy,hr,hl⟩,hfr⟩
set_option maxRecDepth 100000 in
theorem c_Reader_init {G : xG} {h : xH} {a n s : Nat} (hz : h.1 = (n, s)) (ha : a < n) (hh : h.2 a = some (.inr (4, [.null, .null, .int 0, .int 0, .int 0, .int 0]))) : Ca G mX5_init [.ref a] h (fun v h' => v = none ∧ h'.1 = (n + 6, s + 147) ∧ h'.2 a = some (.inr (4, [.ref n, .ref (n + 1), .int 0, .int 0, .int 0, .int 0])) ∧ h'.2 n = some (.inl (0, 6, .inl (fun _ => 0))) ∧ CSh0 h' (n + 1) ∧ ∀ b, (b < n ∧ b ≠ a) → h'.2 b = h.2 b) := by
  refine Ca.of rfl (Nat.le_of_ble_eq_true rfl) ?_
  have hfr : ∀ b, (b < n ∧ b ≠ a) → h.2 b = h.2 b := fun _ _ => rfl
  first | refine go_aload_n (i := 0) (pc' := 1) dX5_init_0 rfl rfl rfl ?_ | refine go_aloadX_n (i := 0) (pc' := 1) dX5_init_0 rfl rfl rfl ?_ | refine go_aload_nN (i := 0) (pc' := 1) dX5_init_0 rfl rfl rfl ?_
  refine go_objInit (pc' := 4) dX5_init_1 rfl wd_66 wd_28 wd_29 (by decide) (Nat.le_of_ble_eq_true rfl) ?_
  first | refine go_aload_n (i := 0) (pc' := 5) dX5_init_4 rfl rfl rfl ?_ | refine go_aloadX_n (i := 0) (pc' := 5) dX5_init_4 rfl rfl rfl ?_ | refine go_aload_nN (i := 0) (pc' := 5) dX5_init_4 rfl rfl rfl ?_
  refine go_bipush (v := 6) (pc' := 7) dX5_init_5 rfl (by decide) ?_
  refine go_newarrayK (t := 0) (N := 6) (pc' := 9) dX5_init_7 rfl rfl (by decide) wd_149 (by decide) (by decide) (by decide) hz (fun hp1 zp1 cp1 fp1 => ?_)
  have hz := zp1
  have hh := (fp1 _ (by omega)).trans hh
  have hfr : ∀ b, (b < n ∧ b ≠ a) → hp1.2 b = h.2 b := fun b hb => (fp1 b (by omega)).trans (hfr b hb)
  have hi : hp1.2 _ = some (.inl (0, 6, .inl (fun _ => 0))) := cp1
  refine go_putfK (pc' := 12) dX5_init_9 rfl pf_LandBase_Reader_11 (fun _ => rfl) hh (Nat.le_of_ble_eq_true rfl) rfl rfl (fun hp2 zp2 cp2 fp2 => ?_)
  dsimp only [List.set] at cp2
  have hz := zp2.trans hz
  have hi := (fp2 _ (by omega)).trans hi
  have hfr : ∀ b, (b < n ∧ b ≠ a) → hp2.2 b = h.2 b := fun b hb => (fp2 b (by omega)).trans (hfr b hb)
  have hh := cp2
  first | refine go_aload_n (i := 0) (pc' := 13) dX5_init_12 rfl rfl rfl ?_ | refine go_aloadX_n (i := 0) (pc' := 13) dX5_init_12 rfl rfl rfl ?_ | refine go_aload_nN (i := 0) (pc' := 13) dX5_init_12 rfl rfl rfl ?_
  refine go_newK (pc' := 16) dX5_init_13 rfl nw_LandBase_Reader_15 hz (fun hp3 zp3 cp3 fp3 => ?_)
  have hz := zp3
  have hh := (fp3 _ (by omega)).trans hh
  have hi := (fp3 _ (by omega)).trans hi
  have hfr : ∀ b, (b < n ∧ b ≠ a) → hp3.2 b = h.2 b := fun b hb => (fp3 b (by omega)).trans (hfr b hb)
  have ht := cp3
  refine go_dup (pc' := 17) dX5_init_16 rfl rfl ?_
  refine go_invI (As := []) (pc' := 20) dX5_init_17 rfl cf_X5_init_17 rfl rfl (Nat.le_of_ble_eq_true rfl) (c_Shape_init (hz:=hz) (ha:=rfl) (hh:=ht)) (fun vp4 hp4 qp4 => ?_)
  obtain ⟨rfl, hz, hS, fp4⟩ := qp4
  have hh := (fp4 _ (by omega)).trans hh
  have hi := (fp4 _ (by omega)).trans hi
  have hfr : ∀ b, (b < n ∧ b ≠ a) → hp4.2 b = h.2 b := fun b hb => (fp4 b (by omega)).trans (hfr b hb)
  have hR : ∀ b, (n + 1) ≤ b → b < (n + 6) → hp4.2 b = hp4.2 b := fun _ _ _ => rfl
  refine go_putfK (pc' := 23) dX5_init_20 rfl pf_LandBase_Reader_18 (fun _ => rfl) hh (Nat.le_of_ble_eq_true rfl) rfl rfl (fun hp5 zp5 cp5 fp5 => ?_)
  dsimp only [List.set] at cp5
  have hz := zp5.trans hz
  have hi := (fp5 _ (by omega)).trans hi
  have hR : ∀ b, (n + 1) ≤ b → b < (n + 6) → hp5.2 b = hp4.2 b := fun b p q => (fp5 b (by omega)).trans (hR b p q)
  have hfr : ∀ b, (b < n ∧ b ≠ a) → hp5.2 b = h.2 b := fun b hb => (fp5 b (by omega)).trans (hfr b hb)
  have hh := cp5
  exact Go.ret (v := none) dX5_init_23 rfl ⟨trivial,rfl,hz,hh,hi,hS.kept (fun b p q => hR b (by omega) (by omega)),hfr⟩
set_option maxRecDepth 100000 in
theorem c_Keeper_init {G : xG} {h : xH} {a n s : Nat} (hz : h.1 = (n, s)) (ha : a < n) (hh : h.2 a = some (.inr (3, [.null, .null, .null, .int 0, .int 0, .int 0, .int 0, .int 0, .int 0, .int 0, .int 0, .int 0]))) : Ca G mX3_init [.ref a] h (fun v h' => v = none ∧ h'.1 = (n + 7, s + 1207) ∧ h'.2 a = some (.inr (3, [.ref n, .ref (n + 3), .ref (n + 6), .int 0, .int 0, .int 0, .int 0, .int 0, .int 0, .int 0, .int (-1), .int 0])) ∧
    h'.2 n = some (.inr (7, [.ref (n + 1), .ref (n + 2), .int 0])) ∧ h'.2 (n + 1) = some (.inl (0, 200, .inl (fun _ => 0))) ∧ h'.2 (n + 2) = some (.inl (4, 200, .inr (.inr (.inr (.inr (fun _ => none)))))) ∧ h'.2 (n + 3) = some (.inr (7, [.ref (n + 4), .ref (n + 5), .int 0])) ∧ h'.2 (n + 4) = some (.inl (0, 200, .inl (fun _ => 0))) ∧ h'.2 (n + 5) = some (.inl (4, 200, .inr (.inr (.inr (.inr (fun _ => none)))))) ∧ h'.2 (n + 6) = some (.inl (4, 401, .inr (.inr (.inr (.inr (fun _ => none)))))) ∧ ∀ b, (b < n ∧ b ≠ a) → h'.2 b = h.2 b) := by
  refine Ca.of rfl (Nat.le_of_ble_eq_true rfl) ?_
  have hfr : ∀ b, (b < n ∧ b ≠ a) → h.2 b = h.2 b := fun _ _ => rfl
  first | refine go_aload_n (i := 0) (pc' := 1) dX3_init_0 rfl rfl rfl ?_ | refine go_aloadX_n (i := 0) (pc' := 1) dX3_init_0 rfl rfl rfl ?_ | refine go_aload_nN (i := 0) (pc' := 1) dX3_init_0 rfl rfl rfl ?_
  refine go_objInit (pc' := 4) dX3_init_1 rfl wd_180 wd_28 wd_29 (by decide) (Nat.le_of_ble_eq_true rfl) ?_
  first | refine go_aload_n (i := 0) (pc' := 5) dX3_init_4 rfl rfl rfl ?_ | refine go_aloadX_n (i := 0) (pc' := 5) dX3_init_4 rfl rfl rfl ?_ | refine go_aload_nN (i := 0) (pc' := 5) dX3_init_4 rfl rfl rfl ?_
  refine go_newK (pc' := 8) dX3_init_5 rfl nw_LandBase_Keeper_9 hz (fun hp1 zp1 cp1 fp1 => ?_)
  have hz := zp1
  have hh := (fp1 _ (by omega)).trans hh
  have hfr : ∀ b, (b < n ∧ b ≠ a) → hp1.2 b = h.2 b := fun b hb => (fp1 b (by omega)).trans (hfr b hb)
  have ht := cp1
  refine go_dup (pc' := 9) dX3_init_8 rfl rfl ?_
  refine go_invI (As := []) (pc' := 12) dX3_init_9 rfl cf_X3_init_11 rfl rfl (Nat.le_of_ble_eq_true rfl) (c_Table_init (hz:=hz) (ha:=by omega) (hh:=ht)) (fun vp2 hp2 qp2 => ?_)
  obtain ⟨rfl, hz, ht, hti, hts, fp2⟩ := qp2
  have hh := (fp2 _ (by omega)).trans hh
  have hfr : ∀ b, (b < n ∧ b ≠ a) → hp2.2 b = h.2 b := fun b hb => (fp2 b (by omega)).trans (hfr b hb)
  refine go_putfK (pc' := 15) dX3_init_12 rfl pf_LandBase_Keeper_12 (fun _ => rfl) hh (Nat.le_of_ble_eq_true rfl) rfl rfl (fun hp3 zp3 cp3 fp3 => ?_)
  dsimp only [List.set] at cp3
  have hz := zp3.trans hz
  have ht := (fp3 _ (by omega)).trans ht
  have hti := (fp3 _ (by omega)).trans hti
  have hts := (fp3 _ (by omega)).trans hts
  have hfr : ∀ b, (b < n ∧ b ≠ a) → hp3.2 b = h.2 b := fun b hb => (fp3 b (by omega)).trans (hfr b hb)
  have hh := cp3
  first | refine go_aload_n (i := 0) (pc' := 16) dX3_init_15 rfl rfl rfl ?_ | refine go_aloadX_n (i := 0) (pc' := 16) dX3_init_15 rfl rfl rfl ?_ | refine go_aload_nN (i := 0) (pc' := 16) dX3_init_15 rfl rfl rfl ?_
  refine go_newK (pc' := 19) dX3_init_16 rfl nw_LandBase_Keeper_9 hz (fun hp4 zp4 cp4 fp4 => ?_)
  have hz := zp4
  have hh := (fp4 _ (by omega)).trans hh
  have ht := (fp4 _ (by omega)).trans ht
  have hti := (fp4 _ (by omega)).trans hti
  have hts := (fp4 _ (by omega)).trans hts
  have hfr : ∀ b, (b < n ∧ b ≠ a) → hp4.2 b = h.2 b := fun b hb => (fp4 b (by omega)).trans (hfr b hb)
  have hu := cp4
  refine go_dup (pc' := 20) dX3_init_19 rfl rfl ?_
  refine go_invI (As := []) (pc' := 23) dX3_init_20 rfl cf_X3_init_11 rfl rfl (Nat.le_of_ble_eq_true rfl) (c_Table_init (hz:=hz) (ha:=by omega) (hh:=hu)) (fun vp5 hp5 qp5 => ?_)
  obtain ⟨rfl, hz, hu, hui, hus, fp5⟩ := qp5
  have hh := (fp5 _ (by omega)).trans hh
  have ht := (fp5 _ (by omega)).trans ht
  have hti := (fp5 _ (by omega)).trans hti
  have hts := (fp5 _ (by omega)).trans hts
  have hfr : ∀ b, (b < n ∧ b ≠ a) → hp5.2 b = h.2 b := fun b hb => (fp5 b (by omega)).trans (hfr b hb)
  refine go_putfK (pc' := 26) dX3_init_23 rfl pf_LandBase_Keeper_18 (fun _ => rfl) hh (Nat.le_of_ble_eq_true rfl) rfl rfl (fun hp6 zp6 cp6 fp6 => ?_)
  dsimp only [List.set] at cp6
  have hz := zp6.trans hz
  have ht := (fp6 _ (by omega)).trans ht
  have hti := (fp6 _ (by omega)).trans hti
  have hts := (fp6 _ (by omega)).trans hts
  have hu := (fp6 _ (by omega)).trans hu
  have hui := (fp6 _ (by omega)).trans hui
  have hus := (fp6 _ (by omega)).trans hus
  have hfr : ∀ b, (b < n ∧ b ≠ a) → hp6.2 b = h.2 b := fun b hb => (fp6 b (by omega)).trans (hfr b hb)
  have hh := cp6
  first | refine go_aload_n (i := 0) (pc' := 27) dX3_init_26 rfl rfl rfl ?_ | refine go_aloadX_n (i := 0) (pc' := 27) dX3_init_26 rfl rfl rfl ?_ | refine go_aload_nN (i := 0) (pc' := 27) dX3_init_26 rfl rfl rfl ?_
  refine go_sipush (v := 401) (pc' := 30) dX3_init_27 rfl (by decide) ?_
  refine go_anewarrayK (t := 4) (N := 401) (pc' := 33) dX3_init_30 rfl (by decide) rfl wd_203 (by decide) (by decide) (by decide) hz (fun hp7 zp7 cp7 fp7 => ?_)
  have hz := zp7
  have hh := (fp7 _ (by omega)).trans hh
  have ht := (fp7 _ (by omega)).trans ht
  have hti := (fp7 _ (by omega)).trans hti
  have hts := (fp7 _ (by omega)).trans hts
  have hu := (fp7 _ (by omega)).trans hu
  have hui := (fp7 _ (by omega)).trans hui
  have hus := (fp7 _ (by omega)).trans hus
  have hfr : ∀ b, (b < n ∧ b ≠ a) → hp7.2 b = h.2 b := fun b hb => (fp7 b (by omega)).trans (hfr b hb)
  have hp : hp7.2 _ = some (.inl (4, 401, .inr (.inr (.inr (.inr (fun _ => none)))))) := cp7
  refine go_putfK (pc' := 36) dX3_init_33 rfl pf_LandBase_Keeper_23 (fun _ => rfl) hh (Nat.le_of_ble_eq_true rfl) rfl rfl (fun hp8 zp8 cp8 fp8 => ?_)
  dsimp only [List.set] at cp8
  have hz := zp8.trans hz
  have ht := (fp8 _ (by omega)).trans ht
  have hti := (fp8 _ (by omega)).trans hti
  have hts := (fp8 _ (by omega)).trans hts
  have hu := (fp8 _ (by omega)).trans hu
  have hui := (fp8 _ (by omega)).trans hui
  have hus := (fp8 _ (by omega)).trans hus
  have hp := (fp8 _ (by omega)).trans hp
  have hfr : ∀ b, (b < n ∧ b ≠ a) → hp8.2 b = h.2 b := fun b hb => (fp8 b (by omega)).trans (hfr b hb)
  have hh := cp8
  first | refine go_aload_n (i := 0) (pc' := 37) dX3_init_36 rfl rfl rfl ?_ | refine go_aloadX_n (i := 0) (pc' := 37) dX3_init_36 rfl rfl rfl ?_ | refine go_aload_nN (i := 0) (pc' := 37) dX3_init_36 rfl rfl rfl ?_
  refine go_iconst (v := (-1)) (pc' := 38) dX3_init_37 rfl (by decide) ?_
  refine go_putfK (pc' := 41) dX3_init_38 rfl pf_LandBase_Keeper_27 (fun h => by cases h) hh (Nat.le_of_ble_eq_true rfl) rfl rfl (fun hp9 zp9 cp9 fp9 => ?_)
  dsimp only [List.set] at cp9
  have hz := zp9.trans hz
  have ht := (fp9 _ (by omega)).trans ht
  have hti := (fp9 _ (by omega)).trans hti
  have hts := (fp9 _ (by omega)).trans hts
  have hu := (fp9 _ (by omega)).trans hu
  have hui := (fp9 _ (by omega)).trans hui
  have hus := (fp9 _ (by omega)).trans hus
  have hp := (fp9 _ (by omega)).trans hp
  have hfr : ∀ b, (b < n ∧ b ≠ a) → hp9.2 b = h.2 b := fun b hb => (fp9 b (by omega)).trans (hfr b hb)
  have hh := cp9
  exact Go.ret (v := none) dX3_init_41 rfl ⟨trivial,rfl,hz,hh,ht,hti,hts,hu,hui,hus,hp,hfr⟩
set_option maxRecDepth 100000 in
theorem c_Cutter_init {G : xG} {h : xH} {a n s : Nat} (hz : h.1 = (n, s)) (ha : a < n) (hh : h.2 a = some (.inr (1, [.null, .int 0, .int 0, .int 0, .int 0, .int 0, .int 0, .null, .null, .null, .int 0, .int 0, .int 0, .int 0]))) : Ca G mX1_init [.ref a] h (fun v h' => v = none ∧ h'.1 = (n + 8, s + 381) ∧ h'.2 a = some (.inr (1, [.ref n, .int 0, .int 0, .int 0, .int 0, .int 0, .int 0, .ref (n + 5), .ref (n + 6), .ref (n + 7), .int 0, .int 0, .int 0, .int 0])) ∧ CSh0 h' n ∧ h'.2 (n + 5) = some (.inl (2, 80, .inr (.inl (fun _ => 0)))) ∧ h'.2 (n + 6) = some (.inl (2, 80, .inr (.inl (fun _ => 0)))) ∧ h'.2 (n + 7) = some (.inl (0, 80, .inl (fun _ => 0))) ∧ ∀ b, (b < n ∧ b ≠ a) → h'.2 b = h.2 b) := by
  refine Ca.of rfl (Nat.le_of_ble_eq_true rfl) ?_
  have hfr : ∀ b, (b < n ∧ b ≠ a) → h.2 b = h.2 b := fun _ _ => rfl
  first | refine go_aload_n (i := 0) (pc' := 1) dX1_init_0 rfl rfl rfl ?_ | refine go_aloadX_n (i := 0) (pc' := 1) dX1_init_0 rfl rfl rfl ?_ | refine go_aload_nN (i := 0) (pc' := 1) dX1_init_0 rfl rfl rfl ?_
  refine go_objInit (pc' := 4) dX1_init_1 rfl wd_253 wd_28 wd_29 (by decide) (Nat.le_of_ble_eq_true rfl) ?_
  first | refine go_aload_n (i := 0) (pc' := 5) dX1_init_4 rfl rfl rfl ?_ | refine go_aloadX_n (i := 0) (pc' := 5) dX1_init_4 rfl rfl rfl ?_ | refine go_aload_nN (i := 0) (pc' := 5) dX1_init_4 rfl rfl rfl ?_
  refine go_newK (pc' := 8) dX1_init_5 rfl nw_LandBase_Cutter_9 hz (fun hp1 zp1 cp1 fp1 => ?_)
  have hz := zp1
  have hh := (fp1 _ (by omega)).trans hh
  have hfr : ∀ b, (b < n ∧ b ≠ a) → hp1.2 b = h.2 b := fun b hb => (fp1 b (by omega)).trans (hfr b hb)
  have ht := cp1
  refine go_dup (pc' := 9) dX1_init_8 rfl rfl ?_
  refine go_invI (As := []) (pc' := 12) dX1_init_9 rfl cf_X1_init_11 rfl rfl (Nat.le_of_ble_eq_true rfl) (c_Shape_init (hz:=hz) (ha:=rfl) (hh:=ht)) (fun vp2 hp2 qp2 => ?_)
  obtain ⟨rfl, hz, hS, fp2⟩ := qp2
  have hh := (fp2 _ (by omega)).trans hh
  have hfr : ∀ b, (b < n ∧ b ≠ a) → hp2.2 b = h.2 b := fun b hb => (fp2 b (by omega)).trans (hfr b hb)
  have hR : ∀ b, n ≤ b → b < (n + 5) → hp2.2 b = hp2.2 b := fun _ _ _ => rfl
  refine go_putfK (pc' := 15) dX1_init_12 rfl pf_LandBase_Cutter_12 (fun h => by cases h) hh (Nat.le_of_ble_eq_true rfl) rfl rfl (fun hp3 zp3 cp3 fp3 => ?_)
  dsimp only [List.set] at cp3
  have hz := zp3.trans hz
  have hR : ∀ b, n ≤ b → b < (n + 5) → hp3.2 b = hp2.2 b := fun b p q => (fp3 b (by omega)).trans (hR b p q)
  have hfr : ∀ b, (b < n ∧ b ≠ a) → hp3.2 b = h.2 b := fun b hb => (fp3 b (by omega)).trans (hfr b hb)
  have hh := cp3
  first | refine go_aload_n (i := 0) (pc' := 16) dX1_init_15 rfl rfl rfl ?_ | refine go_aloadX_n (i := 0) (pc' := 16) dX1_init_15 rfl rfl rfl ?_ | refine go_aload_nN (i := 0) (pc' := 16) dX1_init_15 rfl rfl rfl ?_
  refine go_bipush (v := 80) (pc' := 18) dX1_init_16 rfl (by decide) ?_
  refine go_newarrayK (t := 2) (N := 80) (pc' := 20) dX1_init_18 rfl rfl (by decide) wd_299 (by decide) (by decide) (by decide) hz (fun hp4 zp4 cp4 fp4 => ?_)
  have hz := zp4
  have hh := (fp4 _ (by omega)).trans hh
  have hR : ∀ b, n ≤ b → b < (n + 5) → hp4.2 b = hp2.2 b := fun b p q => (fp4 b (by omega)).trans (hR b p q)
  have hfr : ∀ b, (b < n ∧ b ≠ a) → hp4.2 b = h.2 b := fun b hb => (fp4 b (by omega)).trans (hfr b hb)
  have ho : hp4.2 _ = some (.inl (2, 80, .inr (.inl (fun _ => 0)))) := cp4
  refine go_putfK (pc' := 23) dX1_init_20 rfl pf_LandBase_Cutter_18 (fun _ => rfl) hh (Nat.le_of_ble_eq_true rfl) rfl rfl (fun hp5 zp5 cp5 fp5 => ?_)
  dsimp only [List.set] at cp5
  have hz := zp5.trans hz
  have ho := (fp5 _ (by omega)).trans ho
  have hR : ∀ b, n ≤ b → b < (n + 5) → hp5.2 b = hp2.2 b := fun b p q => (fp5 b (by omega)).trans (hR b p q)
  have hfr : ∀ b, (b < n ∧ b ≠ a) → hp5.2 b = h.2 b := fun b hb => (fp5 b (by omega)).trans (hfr b hb)
  have hh := cp5
  first | refine go_aload_n (i := 0) (pc' := 24) dX1_init_23 rfl rfl rfl ?_ | refine go_aloadX_n (i := 0) (pc' := 24) dX1_init_23 rfl rfl rfl ?_ | refine go_aload_nN (i := 0) (pc' := 24) dX1_init_23 rfl rfl rfl ?_
  refine go_bipush (v := 80) (pc' := 26) dX1_init_24 rfl (by decide) ?_
  refine go_newarrayK (t := 2) (N := 80) (pc' := 28) dX1_init_26 rfl rfl (by decide) wd_299 (by decide) (by decide) (by decide) hz (fun hp6 zp6 cp6 fp6 => ?_)
  have hz := zp6
  have hh := (fp6 _ (by omega)).trans hh
  have ho := (fp6 _ (by omega)).trans ho
  have hR : ∀ b, n ≤ b → b < (n + 5) → hp6.2 b = hp2.2 b := fun b p q => (fp6 b (by omega)).trans (hR b p q)
  have hfr : ∀ b, (b < n ∧ b ≠ a) → hp6.2 b = h.2 b := fun b hb => (fp6 b (by omega)).trans (hfr b hb)
  have hu : hp6.2 _ = some (.inl (2, 80, .inr (.inl (fun _ => 0)))) := cp6
  refine go_putfK (pc' := 31) dX1_init_28 rfl pf_LandBase_Cutter_22 (fun _ => rfl) hh (Nat.le_of_ble_eq_true rfl) rfl rfl (fun hp7 zp7 cp7 fp7 => ?_)
  dsimp only [List.set] at cp7
  have hz := zp7.trans hz
  have ho := (fp7 _ (by omega)).trans ho
  have hu := (fp7 _ (by omega)).trans hu
  have hR : ∀ b, n ≤ b → b < (n + 5) → hp7.2 b = hp2.2 b := fun b p q => (fp7 b (by omega)).trans (hR b p q)
  have hfr : ∀ b, (b < n ∧ b ≠ a) → hp7.2 b = h.2 b := fun b hb => (fp7 b (by omega)).trans (hfr b hb)
  have hh := cp7
  first | refine go_aload_n (i := 0) (pc' := 32) dX1_init_31 rfl rfl rfl ?_ | refine go_aloadX_n (i := 0) (pc' := 32) dX1_init_31 rfl rfl rfl ?_ | refine go_aload_nN (i := 0) (pc' := 32) dX1_init_31 rfl rfl rfl ?_
  refine go_bipush (v := 80) (pc' := 34) dX1_init_32 rfl (by decide) ?_
  refine go_newarrayK (t := 0) (N := 80) (pc' := 36) dX1_init_34 rfl rfl (by decide) wd_149 (by decide) (by decide) (by decide) hz (fun hp8 zp8 cp8 fp8 => ?_)
  have hz := zp8
  have hh := (fp8 _ (by omega)).trans hh
  have ho := (fp8 _ (by omega)).trans ho
  have hu := (fp8 _ (by omega)).trans hu
  have hR : ∀ b, n ≤ b → b < (n + 5) → hp8.2 b = hp2.2 b := fun b p q => (fp8 b (by omega)).trans (hR b p q)
  have hfr : ∀ b, (b < n ∧ b ≠ a) → hp8.2 b = h.2 b := fun b hb => (fp8 b (by omega)).trans (hfr b hb)
  have hv : hp8.2 _ = some (.inl (0, 80, .inl (fun _ => 0))) := cp8
  refine go_putfK (pc' := 39) dX1_init_36 rfl pf_LandBase_Cutter_25 (fun _ => rfl) hh (Nat.le_of_ble_eq_true rfl) rfl rfl (fun hp9 zp9 cp9 fp9 => ?_)
  dsimp only [List.set] at cp9
  have hz := zp9.trans hz
  have ho := (fp9 _ (by omega)).trans ho
  have hu := (fp9 _ (by omega)).trans hu
  have hv := (fp9 _ (by omega)).trans hv
  have hR : ∀ b, n ≤ b → b < (n + 5) → hp9.2 b = hp2.2 b := fun b p q => (fp9 b (by omega)).trans (hR b p q)
  have hfr : ∀ b, (b < n ∧ b ≠ a) → hp9.2 b = h.2 b := fun b hb => (fp9 b (by omega)).trans (hfr b hb)
  have hh := cp9
  exact Go.ret (v := none) dX1_init_39 rfl ⟨trivial,rfl,hz,hh,hS.kept (fun b p q => hR b (by omega) (by omega)),ho,hu,hv,hfr⟩
set_option maxRecDepth 100000 in
theorem c_Checker_init {G : xG} {h : xH} {a n s k : Nat} (hz : h.1 = (n, s)) (ha : a < n) (hh : h.2 a = some (.inr (0, [.null, .null]))) : Ca G mX0_init [.ref a, .ref k] h (fun v h' => v = none ∧ h'.1 = (n + 1, s + 8) ∧ h'.2 a = some (.inr (0, [.ref k, .ref n])) ∧ h'.2 n = some (.inl (0, 8, .inl (fun _ => 0))) ∧ ∀ b, (b < n ∧ b ≠ a) → h'.2 b = h.2 b) := by
  refine Ca.of rfl (Nat.le_of_ble_eq_true rfl) ?_
  have hfr : ∀ b, (b < n ∧ b ≠ a) → h.2 b = h.2 b := fun _ _ => rfl
  first | refine go_aload_n (i := 0) (pc' := 1) dX0_init_0 rfl rfl rfl ?_ | refine go_aloadX_n (i := 0) (pc' := 1) dX0_init_0 rfl rfl rfl ?_ | refine go_aload_nN (i := 0) (pc' := 1) dX0_init_0 rfl rfl rfl ?_
  refine go_objInit (pc' := 4) dX0_init_1 rfl wd_305 wd_28 wd_29 (by decide) (Nat.le_of_ble_eq_true rfl) ?_
  first | refine go_aload_n (i := 0) (pc' := 5) dX0_init_4 rfl rfl rfl ?_ | refine go_aloadX_n (i := 0) (pc' := 5) dX0_init_4 rfl rfl rfl ?_ | refine go_aload_nN (i := 0) (pc' := 5) dX0_init_4 rfl rfl rfl ?_
  first | refine go_aload_n (i := 1) (pc' := 6) dX0_init_5 rfl rfl rfl ?_ | refine go_aloadX_n (i := 1) (pc' := 6) dX0_init_5 rfl rfl rfl ?_ | refine go_aload_nN (i := 1) (pc' := 6) dX0_init_5 rfl rfl rfl ?_
  refine go_putfK (pc' := 9) dX0_init_6 rfl pf_LandBase_Checker_9 (fun _ => rfl) hh (Nat.le_of_ble_eq_true rfl) rfl rfl (fun hp1 zp1 cp1 fp1 => ?_)
  dsimp only [List.set] at cp1
  have hz := zp1.trans hz
  have hfr : ∀ b, (b < n ∧ b ≠ a) → hp1.2 b = h.2 b := fun b hb => (fp1 b (by omega)).trans (hfr b hb)
  have hh := cp1
  first | refine go_aload_n (i := 0) (pc' := 10) dX0_init_9 rfl rfl rfl ?_ | refine go_aloadX_n (i := 0) (pc' := 10) dX0_init_9 rfl rfl rfl ?_ | refine go_aload_nN (i := 0) (pc' := 10) dX0_init_9 rfl rfl rfl ?_
  refine go_bipush (v := 8) (pc' := 12) dX0_init_10 rfl (by decide) ?_
  refine go_newarrayK (t := 0) (N := 8) (pc' := 14) dX0_init_12 rfl rfl (by decide) wd_149 (by decide) (by decide) (by decide) hz (fun hp2 zp2 cp2 fp2 => ?_)
  have hz := zp2
  have hh := (fp2 _ (by omega)).trans hh
  have hfr : ∀ b, (b < n ∧ b ≠ a) → hp2.2 b = h.2 b := fun b hb => (fp2 b (by omega)).trans (hfr b hb)
  have hi : hp2.2 _ = some (.inl (0, 8, .inl (fun _ => 0))) := cp2
  refine go_putfK (pc' := 17) dX0_init_14 rfl pf_LandBase_Checker_15 (fun _ => rfl) hh (Nat.le_of_ble_eq_true rfl) rfl rfl (fun hp3 zp3 cp3 fp3 => ?_)
  dsimp only [List.set] at cp3
  have hz := zp3.trans hz
  have hi := (fp3 _ (by omega)).trans hi
  have hfr : ∀ b, (b < n ∧ b ≠ a) → hp3.2 b = h.2 b := fun b hb => (fp3 b (by omega)).trans (hfr b hb)
  have hh := cp3
  exact Go.ret (v := none) dX0_init_17 rfl ⟨trivial,rfl,hz,hh,hi,hfr⟩
set_option maxRecDepth 100000 in
theorem c_Relations_init {G : xG} {h : xH} {a n s k : Nat} (hz : h.1 = (n, s)) (hh : h.2 a = some (.inr (5, [.null]))) : Ca G mX6_init [.ref a, .ref k] h (fun v h' => v = none ∧ h'.1 = (n, s) ∧ h'.2 a = some (.inr (5, [.ref k])) ∧ ∀ b, (b ≠ a) → h'.2 b = h.2 b) := by
  refine Ca.of rfl (Nat.le_of_ble_eq_true rfl) ?_
  have hfr : ∀ b, (b ≠ a) → h.2 b = h.2 b := fun _ _ => rfl
  first | refine go_aload_n (i := 0) (pc' := 1) dX6_init_0 rfl rfl rfl ?_ | refine go_aloadX_n (i := 0) (pc' := 1) dX6_init_0 rfl rfl rfl ?_ | refine go_aload_nN (i := 0) (pc' := 1) dX6_init_0 rfl rfl rfl ?_
  refine go_objInit (pc' := 4) dX6_init_1 rfl wd_318 wd_28 wd_29 (by decide) (Nat.le_of_ble_eq_true rfl) ?_
  first | refine go_aload_n (i := 0) (pc' := 5) dX6_init_4 rfl rfl rfl ?_ | refine go_aloadX_n (i := 0) (pc' := 5) dX6_init_4 rfl rfl rfl ?_ | refine go_aload_nN (i := 0) (pc' := 5) dX6_init_4 rfl rfl rfl ?_
  first | refine go_aload_n (i := 1) (pc' := 6) dX6_init_5 rfl rfl rfl ?_ | refine go_aloadX_n (i := 1) (pc' := 6) dX6_init_5 rfl rfl rfl ?_ | refine go_aload_nN (i := 1) (pc' := 6) dX6_init_5 rfl rfl rfl ?_
  refine go_putfK (pc' := 9) dX6_init_6 rfl pf_LandBase_Relations_9 (fun _ => rfl) hh (Nat.le_of_ble_eq_true rfl) rfl rfl (fun hp1 zp1 cp1 fp1 => ?_)
  dsimp only [List.set] at cp1
  have hz := zp1.trans hz
  have hfr : ∀ b, (b ≠ a) → hp1.2 b = h.2 b := fun b hb => (fp1 b (by omega)).trans (hfr b hb)
  have hh := cp1
  exact Go.ret (v := none) dX6_init_9 rfl ⟨trivial,rfl,hz,hh,hfr⟩
set_option maxRecDepth 100000 in
theorem c_Distance_init {G : xG} {h : xH} {a n s : Nat} (hz : h.1 = (n, s)) (hh : h.2 a = some (.inr (2, [.long 0, .long 0, .long 0]))) : Ca G mX2_init [.ref a] h (fun v h' => v = none ∧ h'.1 = (n, s) ∧ h'.2 a = some (.inr (2, [.long 0, .long 0, .long 1])) ∧ ∀ b, (b ≠ a) → h'.2 b = h.2 b) := by
  refine Ca.of rfl (Nat.le_of_ble_eq_true rfl) ?_
  have hfr : ∀ b, (b ≠ a) → h.2 b = h.2 b := fun _ _ => rfl
  first | refine go_aload_n (i := 0) (pc' := 1) dX2_init_0 rfl rfl rfl ?_ | refine go_aloadX_n (i := 0) (pc' := 1) dX2_init_0 rfl rfl rfl ?_ | refine go_aload_nN (i := 0) (pc' := 1) dX2_init_0 rfl rfl rfl ?_
  refine go_objInit (pc' := 4) dX2_init_1 rfl wd_329 wd_28 wd_29 (by decide) (Nat.le_of_ble_eq_true rfl) ?_
  first | refine go_aload_n (i := 0) (pc' := 5) dX2_init_4 rfl rfl rfl ?_ | refine go_aloadX_n (i := 0) (pc' := 5) dX2_init_4 rfl rfl rfl ?_ | refine go_aload_nN (i := 0) (pc' := 5) dX2_init_4 rfl rfl rfl ?_
  refine go_lconst (v := 1) (pc' := 6) dX2_init_5 rfl (by decide) ?_
  refine go_putfK (pc' := 9) dX2_init_6 rfl pf_LandBase_Distance_9 (fun h => by cases h) hh (Nat.le_of_ble_eq_true rfl) rfl rfl (fun hp1 zp1 cp1 fp1 => ?_)
  dsimp only [List.set] at cp1
  have hz := zp1.trans hz
  have hfr : ∀ b, (b ≠ a) → hp1.2 b = h.2 b := fun b hb => (fp1 b (by omega)).trans (hfr b hb)
  have hh := cp1
  exact Go.ret (v := none) dX2_init_9 rfl ⟨trivial,rfl,hz,hh,hfr⟩
end
section
/-! LandBase() -/
/-- what LandBase() leaves: the parts at 1 .. 232 -/
def CIn (h : xH) : Prop :=
  h.2 0 = some (.inr (9, [.ref 1, .ref 3, .ref 10, .ref 27, .ref 29, .ref 30, .ref 231, .ref 232, .int 0, .int 0, .int (-1)])) ∧
  (h.2 1 = some (.inr (8, [.ref 2, .int 0, .int 0, .int 0, .int 0, .int 0])) ∧ h.2 2 = some (.inl (1, 4000, .inl (fun _ => 0)))) ∧
  (h.2 3 = some (.inr (4, [.ref 4, .ref 5, .int 0, .int 0, .int 0, .int 0])) ∧ h.2 4 = some (.inl (0, 6, .inl (fun _ => 0))) ∧ CSh0 h 5) ∧
  (h.2 10 = some (.inr (3, [.ref 11, .ref 14, .ref 17, .int 0, .int 0, .int 0, .int 0, .int 0, .int 0, .int 0, .int (-1), .int 0])) ∧ h.2 11 = some (.inr (7, [.ref 12, .ref 13, .int 0])) ∧ h.2 12 = some (.inl (0, 200, .inl (fun _ => 0))) ∧ h.2 13 = some (.inl (4, 200, .inr (.inr (.inr (.inr (fun _ => none)))))) ∧ h.2 14 = some (.inr (7, [.ref 15, .ref 16, .int 0])) ∧ h.2 15 = some (.inl (0, 200, .inl (fun _ => 0))) ∧ h.2 16 = some (.inl (4, 200, .inr (.inr (.inr (.inr (fun _ => none)))))) ∧ h.2 17 = some (.inl (4, 401, .inr (.inr (.inr (.inr (fun _ => none))))))) ∧
  (h.2 18 = some (.inr (1, [.ref 19, .int 0, .int 0, .int 0, .int 0, .int 0, .int 0, .ref 24, .ref 25, .ref 26, .int 0, .int 0, .int 0, .int 0])) ∧ CSh0 h 19 ∧ h.2 24 = some (.inl (2, 80, .inr (.inl (fun _ => 0)))) ∧ h.2 25 = some (.inl (2, 80, .inr (.inl (fun _ => 0)))) ∧ h.2 26 = some (.inl (0, 80, .inl (fun _ => 0)))) ∧
  (h.2 27 = some (.inr (0, [.ref 18, .ref 28])) ∧ h.2 28 = some (.inl (0, 8, .inl (fun _ => 0))) ∧ h.2 29 = some (.inr (5, [.ref 18]))) ∧
  (∃ f : Nat → Option Nat, h.2 30 = some (.inl (5, 200, .inr (.inr (.inr (.inr f))))) ∧ (∀ i, i < 200 → f i = some (31 + i) ∧ h.2 (31 + i) = some (.inr (2, [.long 0, .long 0, .long 1])))) ∧
  (h.2 231 = some (.inl (0, 200, .inl (fun _ => 0))) ∧ h.2 232 = some (.inl (0, 20000, .inl (fun _ => 0))))
theorem CIn.kept {h h1 : xH} (k : CIn h) (f : ∀ b, b < 233 → h1.2 b = h.2 b) : CIn h1 := by
  obtain ⟨k0, ⟨k1, k2⟩, ⟨k3, k4, k5⟩, ⟨k10, k11, k12, k13, k14, k15, k16, k17⟩, ⟨k18, k19, k24, k25, k26⟩, ⟨k27, k28, k29⟩, ⟨g, k30, k31⟩, k231, k232⟩ := k
  exact ⟨(f _ (by omega)).trans k0, ⟨(f _ (by omega)).trans k1, (f _ (by omega)).trans k2⟩, ⟨(f _ (by omega)).trans k3, (f _ (by omega)).trans k4, k5.kept (fun b _ q => f b (by omega))⟩,
    ⟨(f _ (by omega)).trans k10, (f _ (by omega)).trans k11, (f _ (by omega)).trans k12, (f _ (by omega)).trans k13, (f _ (by omega)).trans k14, (f _ (by omega)).trans k15, (f _ (by omega)).trans k16, (f _ (by omega)).trans k17⟩,
    ⟨(f _ (by omega)).trans k18, k19.kept (fun b _ q => f b (by omega)), (f _ (by omega)).trans k24, (f _ (by omega)).trans k25, (f _ (by omega)).trans k26⟩, ⟨(f _ (by omega)).trans k27, (f _ (by omega)).trans k28, (f _ (by omega)).trans k29⟩,
    ⟨g, (f _ (by omega)).trans k30, fun i hi => ⟨(k31 i hi).1, (f _ (by omega)).trans (k31 i hi).2⟩⟩, (f _ (by omega)).trans k231, (f _ (by omega)).trans k232⟩
set_option maxRecDepth 100000 in
/-- the loop that makes the distances -/
theorem g_Land_init {G : xG} {P : Option Value → xH → Prop} {fs : List Value} (hfs : fs[5]? = some (.ref 30)) (hL : fs.length = 11) :
    ∀ (m i : Nat) (h : xH) (f : Nat → Option Nat), i + m = 200 → h.1 = (31 + i, 5995 + 3 * i) → h.2 0 = some (.inr (9, fs)) → h.2 30 = some (.inl (5, 200, .inr (.inr (.inr (.inr f))))) → (∀ j, j < i → f j = some (31 + j) ∧ h.2 (31 + j) = some (.inr (2, [.long 0, .long 0, .long 1]))) →
    (∀ (h' : xH) (f' : Nat → Option Nat), h'.1 = (231, 6595) → h'.2 0 = some (.inr (9, fs)) → h'.2 30 = some (.inl (5, 200, .inr (.inr (.inr (.inr f'))))) → (∀ j, j < 200 → f' j = some (31 + j) ∧ h'.2 (31 + j) = some (.inr (2, [.long 0, .long 0, .long 1]))) → (∀ b, 0 < b → b < 30 → h'.2 b = h.2 b) → Go G mX10_init 107 [some (.ref 0), some (.ref 18), some (.int 200)] [] h' P) →
    Go G mX10_init 81 [some (.ref 0), some (.ref 18), some (.int (nI i))] [] h P := by
  intro m
  induction m with
  | zero =>
    intro i h f him hz h0 h30 hj k
    have hi : i = 200 := by omega
    subst hi
    refine go_iload_n (i := 2) (pc' := 82) dX10_init_81 rfl rfl rfl ?_
    refine go_sipush (v := 200) (pc' := 85) dX10_init_82 rfl (by decide) ?_
    refine go_icmp_ge (pc' := 88) (tgt := 107) dX10_init_85 (by decide) rfl (fun c1 => ?_) (fun c1 => ?_)
    · exact k h f hz h0 h30 hj (fun _ _ _ => rfl)
    · exact absurd (by decide) c1
  | succ m ih =>
    intro i h f him hz h0 h30 hj k
    have hin : vp_in (nI i) 200 := vp_in_nI (by omega) (by omega)
    have hc : (nI i).toNatClampNeg = i := nI_clamp (by omega)
    refine go_iload_n (i := 2) (pc' := 82) dX10_init_81 rfl rfl rfl ?_
    refine go_sipush (v := 200) (pc' := 85) dX10_init_82 rfl (by decide) ?_
    refine go_icmp_ge (pc' := 88) (tgt := 107) dX10_init_85 (by decide) rfl (fun c1 => ?_) (fun c1 => ?_)
    · exact absurd c1 (nI_ge (a := i) (b := 200) (by omega) (by omega))
    · first | refine go_aload_n (i := 0) (pc' := 89) dX10_init_88 rfl rfl rfl ?_ | refine go_aloadX_n (i := 0) (pc' := 89) dX10_init_88 rfl rfl rfl ?_ | refine go_aload_nN (i := 0) (pc' := 89) dX10_init_88 rfl rfl rfl ?_
      refine go_getf (pc' := 92) dX10_init_89 rfl gf_LandBase_51 h0 hfs ?_
      refine go_iload_n (i := 2) (pc' := 93) dX10_init_92 rfl rfl rfl ?_
      refine go_newK (pc' := 96) dX10_init_93 rfl nw_LandBase_49 hz (fun hp1 zp1 cp1 fp1 => ?_)
      have hz := zp1
      have h0 := (fp1 _ (by omega)).trans h0
      have h30 := (fp1 _ (by omega)).trans h30
      have hD := cp1
      refine go_dup (pc' := 97) dX10_init_96 rfl rfl ?_
      refine go_invI (As := []) (pc' := 100) dX10_init_97 rfl cf_X10_init_55 rfl rfl (Nat.le_of_ble_eq_true rfl) (c_Distance_init (hz:=hz) (hh:=hD)) (fun vp2 hp2 qp2 => ?_)
      obtain ⟨rfl, hz, hD, fp2⟩ := qp2
      have h0 := (fp2 _ (by omega)).trans h0
      have h30 := (fp2 _ (by omega)).trans h30
      refine go_aastoreK (pc' := 101) dX10_init_100 rfl (by decide) rfl rfl h30 hD hin (fun hp3 zp3 cp3 fp3 => ?_)
      have hz := zp3.trans hz
      have h0 := (fp3 _ (by omega)).trans h0
      have hD := (fp3 _ (by omega)).trans hD
      have h30 := cp3
      refine go_iincC (kk := 1) (pc' := 104) dX10_init_101 rfl rfl (by decide) (by decide) rfl ?_
      refine go_goto (pc' := 0) (tgt := 81) dX10_init_104 (by decide) ?_
      rw [hc] at h30
      rw [nI_1]
      refine ih (i + 1) _ _ (by omega) (by rw [hz]; congr 1) h0 h30 (fun j hj2 => ?_) (fun h' f' e1 e2 e3 e4 e5 => k h' f' e1 e2 e3 e4 (fun b p q => (e5 b p q).trans ?_))
      · by_cases e : j = i
        · subst e
          exact ⟨by simp [va_up], hD⟩
        · refine ⟨by simp [va_up, e, (hj j (by omega)).1], ?_⟩
          rw [fp3 _ (by omega), fp2 _ (by omega), fp1 _ (by omega)]
          exact (hj j (by omega)).2
      · rw [fp3 _ (by omega), fp2 _ (by omega), fp1 _ (by omega)]
set_option maxRecDepth 100000 in
theorem c_Land_init {G : xG} {h : xH} (hz : h.1 = (1, 11)) (hh : h.2 0 = some (.inr (9, [.null, .null, .null, .null, .null, .null, .null, .null, .int 0, .int 0, .int 0]))) : Ca G mX10_init [.ref 0] h (fun v h' => v = none ∧ h'.1 = (233, 26795) ∧ CIn h') := by
  refine Ca.of rfl (Nat.le_of_ble_eq_true rfl) ?_
  first | refine go_aload_n (i := 0) (pc' := 1) dX10_init_0 rfl rfl rfl ?_ | refine go_aloadX_n (i := 0) (pc' := 1) dX10_init_0 rfl rfl rfl ?_ | refine go_aload_nN (i := 0) (pc' := 1) dX10_init_0 rfl rfl rfl ?_
  refine go_objInit (pc' := 4) dX10_init_1 rfl wd_27 wd_28 wd_29 (by decide) (Nat.le_of_ble_eq_true rfl) ?_
  first | refine go_aload_n (i := 0) (pc' := 5) dX10_init_4 rfl rfl rfl ?_ | refine go_aloadX_n (i := 0) (pc' := 5) dX10_init_4 rfl rfl rfl ?_ | refine go_aload_nN (i := 0) (pc' := 5) dX10_init_4 rfl rfl rfl ?_
  refine go_newK (pc' := 8) dX10_init_5 rfl nw_LandBase_7 hz (fun hp1 zp1 cp1 fp1 => ?_)
  have hz := zp1
  have hh := (fp1 _ (by omega)).trans hh
  have h1t := cp1
  refine go_dup (pc' := 9) dX10_init_8 rfl rfl ?_
  refine go_invI (As := []) (pc' := 12) dX10_init_9 rfl cf_X10_init_9 rfl rfl (Nat.le_of_ble_eq_true rfl) (c_Tape_init (hz:=hz) (ha:=by omega) (hh:=h1t)) (fun vp2 hp2 qp2 => ?_)
  obtain ⟨rfl, hz, h1t, h2t, fp2⟩ := qp2
  have hh := (fp2 _ (by omega)).trans hh
  have hz : hp2.1 = (3, 4017) := hz
  refine go_putfK (pc' := 15) dX10_init_12 rfl pf_LandBase_10 (fun _ => rfl) hh (Nat.le_of_ble_eq_true rfl) rfl rfl (fun hp3 zp3 cp3 fp3 => ?_)
  dsimp only [List.set] at cp3
  have hz := zp3.trans hz
  have h1t := (fp3 _ (by omega)).trans h1t
  have h2t := (fp3 _ (by omega)).trans h2t
  have hh := cp3
  first | refine go_aload_n (i := 0) (pc' := 16) dX10_init_15 rfl rfl rfl ?_ | refine go_aloadX_n (i := 0) (pc' := 16) dX10_init_15 rfl rfl rfl ?_ | refine go_aload_nN (i := 0) (pc' := 16) dX10_init_15 rfl rfl rfl ?_
  refine go_newK (pc' := 19) dX10_init_16 rfl nw_LandBase_16 hz (fun hp4 zp4 cp4 fp4 => ?_)
  have hz := zp4
  have hh := (fp4 _ (by omega)).trans hh
  have h1t := (fp4 _ (by omega)).trans h1t
  have h2t := (fp4 _ (by omega)).trans h2t
  have h3t := cp4
  refine go_dup (pc' := 20) dX10_init_19 rfl rfl ?_
  refine go_invI (As := []) (pc' := 23) dX10_init_20 rfl cf_X10_init_18 rfl rfl (Nat.le_of_ble_eq_true rfl) (c_Reader_init (hz:=hz) (ha:=by omega) (hh:=h3t)) (fun vp5 hp5 qp5 => ?_)
  obtain ⟨rfl, hz, h3t, h4t, hS5, fp5⟩ := qp5
  have hh := (fp5 _ (by omega)).trans hh
  have h1t := (fp5 _ (by omega)).trans h1t
  have h2t := (fp5 _ (by omega)).trans h2t
  have hz : hp5.1 = (10, 4170) := hz
  have hR5 : ∀ b, 5 ≤ b → b < 10 → hp5.2 b = hp5.2 b := fun _ _ _ => rfl
  refine go_putfK (pc' := 26) dX10_init_23 rfl pf_LandBase_19 (fun _ => rfl) hh (Nat.le_of_ble_eq_true rfl) rfl rfl (fun hp6 zp6 cp6 fp6 => ?_)
  dsimp only [List.set] at cp6
  have hz := zp6.trans hz
  have h1t := (fp6 _ (by omega)).trans h1t
  have h2t := (fp6 _ (by omega)).trans h2t
  have h3t := (fp6 _ (by omega)).trans h3t
  have h4t := (fp6 _ (by omega)).trans h4t
  have hR5 : ∀ b, 5 ≤ b → b < 10 → hp6.2 b = hp5.2 b := fun b p q => (fp6 b (by omega)).trans (hR5 b p q)
  have hh := cp6
  first | refine go_aload_n (i := 0) (pc' := 27) dX10_init_26 rfl rfl rfl ?_ | refine go_aloadX_n (i := 0) (pc' := 27) dX10_init_26 rfl rfl rfl ?_ | refine go_aload_nN (i := 0) (pc' := 27) dX10_init_26 rfl rfl rfl ?_
  refine go_newK (pc' := 30) dX10_init_27 rfl nw_LandBase_23 hz (fun hp7 zp7 cp7 fp7 => ?_)
  have hz := zp7
  have hh := (fp7 _ (by omega)).trans hh
  have h1t := (fp7 _ (by omega)).trans h1t
  have h2t := (fp7 _ (by omega)).trans h2t
  have h3t := (fp7 _ (by omega)).trans h3t
  have h4t := (fp7 _ (by omega)).trans h4t
  have hR5 : ∀ b, 5 ≤ b → b < 10 → hp7.2 b = hp5.2 b := fun b p q => (fp7 b (by omega)).trans (hR5 b p q)
  have h10t := cp7
  refine go_dup (pc' := 31) dX10_init_30 rfl rfl ?_
  refine go_invI (As := []) (pc' := 34) dX10_init_31 rfl cf_X10_init_25 rfl rfl (Nat.le_of_ble_eq_true rfl) (c_Keeper_init (hz:=hz) (ha:=by omega) (hh:=h10t)) (fun vp8 hp8 qp8 => ?_)
  obtain ⟨rfl, hz, h10t, h11t, h12t, h13t, h14t, h15t, h16t, h17t, fp8⟩ := qp8
  have hh := (fp8 _ (by omega)).trans hh
  have h1t := (fp8 _ (by omega)).trans h1t
  have h2t := (fp8 _ (by omega)).trans h2t
  have h3t := (fp8 _ (by omega)).trans h3t
  have h4t := (fp8 _ (by omega)).trans h4t
  have hR5 : ∀ b, 5 ≤ b → b < 10 → hp8.2 b = hp5.2 b := fun b p q => (fp8 b (by omega)).trans (hR5 b p q)
  have hz : hp8.1 = (18, 5389) := hz
  refine go_putfK (pc' := 37) dX10_init_34 rfl pf_LandBase_26 (fun _ => rfl) hh (Nat.le_of_ble_eq_true rfl) rfl rfl (fun hp9 zp9 cp9 fp9 => ?_)
  dsimp only [List.set] at cp9
  have hz := zp9.trans hz
  have h1t := (fp9 _ (by omega)).trans h1t
  have h2t := (fp9 _ (by omega)).trans h2t
  have h3t := (fp9 _ (by omega)).trans h3t
  have h4t := (fp9 _ (by omega)).trans h4t
  have h10t := (fp9 _ (by omega)).trans h10t
  have h11t := (fp9 _ (by omega)).trans h11t
  have h12t := (fp9 _ (by omega)).trans h12t
  have h13t := (fp9 _ (by omega)).trans h13t
  have h14t := (fp9 _ (by omega)).trans h14t
  have h15t := (fp9 _ (by omega)).trans h15t
  have h16t := (fp9 _ (by omega)).trans h16t
  have h17t := (fp9 _ (by omega)).trans h17t
  have hR5 : ∀ b, 5 ≤ b → b < 10 → hp9.2 b = hp5.2 b := fun b p q => (fp9 b (by omega)).trans (hR5 b p q)
  have hh := cp9
  refine go_newK (pc' := 40) dX10_init_37 rfl nw_LandBase_30 hz (fun hp10 zp10 cp10 fp10 => ?_)
  have hz := zp10
  have hh := (fp10 _ (by omega)).trans hh
  have h1t := (fp10 _ (by omega)).trans h1t
  have h2t := (fp10 _ (by omega)).trans h2t
  have h3t := (fp10 _ (by omega)).trans h3t
  have h4t := (fp10 _ (by omega)).trans h4t
  have h10t := (fp10 _ (by omega)).trans h10t
  have h11t := (fp10 _ (by omega)).trans h11t
  have h12t := (fp10 _ (by omega)).trans h12t
  have h13t := (fp10 _ (by omega)).trans h13t
  have h14t := (fp10 _ (by omega)).trans h14t
  have h15t := (fp10 _ (by omega)).trans h15t
  have h16t := (fp10 _ (by omega)).trans h16t
  have h17t := (fp10 _ (by omega)).trans h17t
  have hR5 : ∀ b, 5 ≤ b → b < 10 → hp10.2 b = hp5.2 b := fun b p q => (fp10 b (by omega)).trans (hR5 b p q)
  have h18t := cp10
  refine go_dup (pc' := 41) dX10_init_40 rfl rfl ?_
  refine go_invI (As := []) (pc' := 44) dX10_init_41 rfl cf_X10_init_32 rfl rfl (Nat.le_of_ble_eq_true rfl) (c_Cutter_init (hz:=hz) (ha:=by omega) (hh:=h18t)) (fun vp11 hp11 qp11 => ?_)
  obtain ⟨rfl, hz, h18t, hS19, h24t, h25t, h26t, fp11⟩ := qp11
  have hh := (fp11 _ (by omega)).trans hh
  have h1t := (fp11 _ (by omega)).trans h1t
  have h2t := (fp11 _ (by omega)).trans h2t
  have h3t := (fp11 _ (by omega)).trans h3t
  have h4t := (fp11 _ (by omega)).trans h4t
  have h10t := (fp11 _ (by omega)).trans h10t
  have h11t := (fp11 _ (by omega)).trans h11t
  have h12t := (fp11 _ (by omega)).trans h12t
  have h13t := (fp11 _ (by omega)).trans h13t
  have h14t := (fp11 _ (by omega)).trans h14t
  have h15t := (fp11 _ (by omega)).trans h15t
  have h16t := (fp11 _ (by omega)).trans h16t
  have h17t := (fp11 _ (by omega)).trans h17t
  have hR5 : ∀ b, 5 ≤ b → b < 10 → hp11.2 b = hp5.2 b := fun b p q => (fp11 b (by omega)).trans (hR5 b p q)
  have hz : hp11.1 = (27, 5784) := hz
  have hR19 : ∀ b, 19 ≤ b → b < 24 → hp11.2 b = hp11.2 b := fun _ _ _ => rfl
  first | refine go_astore_n (i := 1) (pc' := 45) dX10_init_44 rfl rfl (by decide) rfl ?_ | refine go_astoreX_n (i := 1) (pc' := 45) dX10_init_44 rfl rfl (by decide) rfl ?_ | refine go_astore_nN (i := 1) (pc' := 45) dX10_init_44 rfl rfl (by decide) rfl ?_
  first | refine go_aload_n (i := 0) (pc' := 46) dX10_init_45 rfl rfl rfl ?_ | refine go_aloadX_n (i := 0) (pc' := 46) dX10_init_45 rfl rfl rfl ?_ | refine go_aload_nN (i := 0) (pc' := 46) dX10_init_45 rfl rfl rfl ?_
  refine go_newK (pc' := 49) dX10_init_46 rfl nw_LandBase_33 hz (fun hp12 zp12 cp12 fp12 => ?_)
  have hz := zp12
  have hh := (fp12 _ (by omega)).trans hh
  have h1t := (fp12 _ (by omega)).trans h1t
  have h2t := (fp12 _ (by omega)).trans h2t
  have h3t := (fp12 _ (by omega)).trans h3t
  have h4t := (fp12 _ (by omega)).trans h4t
  have h10t := (fp12 _ (by omega)).trans h10t
  have h11t := (fp12 _ (by omega)).trans h11t
  have h12t := (fp12 _ (by omega)).trans h12t
  have h13t := (fp12 _ (by omega)).trans h13t
  have h14t := (fp12 _ (by omega)).trans h14t
  have h15t := (fp12 _ (by omega)).trans h15t
  have h16t := (fp12 _ (by omega)).trans h16t
  have h17t := (fp12 _ (by omega)).trans h17t
  have h18t := (fp12 _ (by omega)).trans h18t
  have h24t := (fp12 _ (by omega)).trans h24t
  have h25t := (fp12 _ (by omega)).trans h25t
  have h26t := (fp12 _ (by omega)).trans h26t
  have hR5 : ∀ b, 5 ≤ b → b < 10 → hp12.2 b = hp5.2 b := fun b p q => (fp12 b (by omega)).trans (hR5 b p q)
  have hR19 : ∀ b, 19 ≤ b → b < 24 → hp12.2 b = hp11.2 b := fun b p q => (fp12 b (by omega)).trans (hR19 b p q)
  have h27t := cp12
  refine go_dup (pc' := 50) dX10_init_49 rfl rfl ?_
  first | refine go_aload_n (i := 1) (pc' := 51) dX10_init_50 rfl rfl rfl ?_ | refine go_aloadX_n (i := 1) (pc' := 51) dX10_init_50 rfl rfl rfl ?_ | refine go_aload_nN (i := 1) (pc' := 51) dX10_init_50 rfl rfl rfl ?_
  refine go_invI (As := [_]) (pc' := 54) dX10_init_51 rfl cf_X10_init_35 rfl rfl (Nat.le_of_ble_eq_true rfl) (c_Checker_init (hz:=hz) (ha:=by omega) (hh:=h27t)) (fun vp13 hp13 qp13 => ?_)
  obtain ⟨rfl, hz, h27t, h28t, fp13⟩ := qp13
  have hh := (fp13 _ (by omega)).trans hh
  have h1t := (fp13 _ (by omega)).trans h1t
  have h2t := (fp13 _ (by omega)).trans h2t
  have h3t := (fp13 _ (by omega)).trans h3t
  have h4t := (fp13 _ (by omega)).trans h4t
  have h10t := (fp13 _ (by omega)).trans h10t
  have h11t := (fp13 _ (by omega)).trans h11t
  have h12t := (fp13 _ (by omega)).trans h12t
  have h13t := (fp13 _ (by omega)).trans h13t
  have h14t := (fp13 _ (by omega)).trans h14t
  have h15t := (fp13 _ (by omega)).trans h15t
  have h16t := (fp13 _ (by omega)).trans h16t
  have h17t := (fp13 _ (by omega)).trans h17t
  have h18t := (fp13 _ (by omega)).trans h18t
  have h24t := (fp13 _ (by omega)).trans h24t
  have h25t := (fp13 _ (by omega)).trans h25t
  have h26t := (fp13 _ (by omega)).trans h26t
  have hR5 : ∀ b, 5 ≤ b → b < 10 → hp13.2 b = hp5.2 b := fun b p q => (fp13 b (by omega)).trans (hR5 b p q)
  have hR19 : ∀ b, 19 ≤ b → b < 24 → hp13.2 b = hp11.2 b := fun b p q => (fp13 b (by omega)).trans (hR19 b p q)
  have hz : hp13.1 = (29, 5794) := hz
  refine go_putfK (pc' := 57) dX10_init_54 rfl pf_LandBase_38 (fun _ => rfl) hh (Nat.le_of_ble_eq_true rfl) rfl rfl (fun hp14 zp14 cp14 fp14 => ?_)
  dsimp only [List.set] at cp14
  have hz := zp14.trans hz
  have h1t := (fp14 _ (by omega)).trans h1t
  have h2t := (fp14 _ (by omega)).trans h2t
  have h3t := (fp14 _ (by omega)).trans h3t
  have h4t := (fp14 _ (by omega)).trans h4t
  have h10t := (fp14 _ (by omega)).trans h10t
  have h11t := (fp14 _ (by omega)).trans h11t
  have h12t := (fp14 _ (by omega)).trans h12t
  have h13t := (fp14 _ (by omega)).trans h13t
  have h14t := (fp14 _ (by omega)).trans h14t
  have h15t := (fp14 _ (by omega)).trans h15t
  have h16t := (fp14 _ (by omega)).trans h16t
  have h17t := (fp14 _ (by omega)).trans h17t
  have h18t := (fp14 _ (by omega)).trans h18t
  have h24t := (fp14 _ (by omega)).trans h24t
  have h25t := (fp14 _ (by omega)).trans h25t
  have h26t := (fp14 _ (by omega)).trans h26t
  have h27t := (fp14 _ (by omega)).trans h27t
  have h28t := (fp14 _ (by omega)).trans h28t
  have hR5 : ∀ b, 5 ≤ b → b < 10 → hp14.2 b = hp5.2 b := fun b p q => (fp14 b (by omega)).trans (hR5 b p q)
  have hR19 : ∀ b, 19 ≤ b → b < 24 → hp14.2 b = hp11.2 b := fun b p q => (fp14 b (by omega)).trans (hR19 b p q)
  have hh := cp14
  first | refine go_aload_n (i := 0) (pc' := 58) dX10_init_57 rfl rfl rfl ?_ | refine go_aloadX_n (i := 0) (pc' := 58) dX10_init_57 rfl rfl rfl ?_ | refine go_aload_nN (i := 0) (pc' := 58) dX10_init_57 rfl rfl rfl ?_
  refine go_newK (pc' := 61) dX10_init_58 rfl nw_LandBase_42 hz (fun hp15 zp15 cp15 fp15 => ?_)
  have hz := zp15
  have hh := (fp15 _ (by omega)).trans hh
  have h1t := (fp15 _ (by omega)).trans h1t
  have h2t := (fp15 _ (by omega)).trans h2t
  have h3t := (fp15 _ (by omega)).trans h3t
  have h4t := (fp15 _ (by omega)).trans h4t
  have h10t := (fp15 _ (by omega)).trans h10t
  have h11t := (fp15 _ (by omega)).trans h11t
  have h12t := (fp15 _ (by omega)).trans h12t
  have h13t := (fp15 _ (by omega)).trans h13t
  have h14t := (fp15 _ (by omega)).trans h14t
  have h15t := (fp15 _ (by omega)).trans h15t
  have h16t := (fp15 _ (by omega)).trans h16t
  have h17t := (fp15 _ (by omega)).trans h17t
  have h18t := (fp15 _ (by omega)).trans h18t
  have h24t := (fp15 _ (by omega)).trans h24t
  have h25t := (fp15 _ (by omega)).trans h25t
  have h26t := (fp15 _ (by omega)).trans h26t
  have h27t := (fp15 _ (by omega)).trans h27t
  have h28t := (fp15 _ (by omega)).trans h28t
  have hR5 : ∀ b, 5 ≤ b → b < 10 → hp15.2 b = hp5.2 b := fun b p q => (fp15 b (by omega)).trans (hR5 b p q)
  have hR19 : ∀ b, 19 ≤ b → b < 24 → hp15.2 b = hp11.2 b := fun b p q => (fp15 b (by omega)).trans (hR19 b p q)
  have h29t := cp15
  refine go_dup (pc' := 62) dX10_init_61 rfl rfl ?_
  first | refine go_aload_n (i := 1) (pc' := 63) dX10_init_62 rfl rfl rfl ?_ | refine go_aloadX_n (i := 1) (pc' := 63) dX10_init_62 rfl rfl rfl ?_ | refine go_aload_nN (i := 1) (pc' := 63) dX10_init_62 rfl rfl rfl ?_
  refine go_invI (As := [_]) (pc' := 66) dX10_init_63 rfl cf_X10_init_44 rfl rfl (Nat.le_of_ble_eq_true rfl) (c_Relations_init (hz:=hz) (hh:=h29t)) (fun vp16 hp16 qp16 => ?_)
  obtain ⟨rfl, hz, h29t, fp16⟩ := qp16
  have hh := (fp16 _ (by omega)).trans hh
  have h1t := (fp16 _ (by omega)).trans h1t
  have h2t := (fp16 _ (by omega)).trans h2t
  have h3t := (fp16 _ (by omega)).trans h3t
  have h4t := (fp16 _ (by omega)).trans h4t
  have h10t := (fp16 _ (by omega)).trans h10t
  have h11t := (fp16 _ (by omega)).trans h11t
  have h12t := (fp16 _ (by omega)).trans h12t
  have h13t := (fp16 _ (by omega)).trans h13t
  have h14t := (fp16 _ (by omega)).trans h14t
  have h15t := (fp16 _ (by omega)).trans h15t
  have h16t := (fp16 _ (by omega)).trans h16t
  have h17t := (fp16 _ (by omega)).trans h17t
  have h18t := (fp16 _ (by omega)).trans h18t
  have h24t := (fp16 _ (by omega)).trans h24t
  have h25t := (fp16 _ (by omega)).trans h25t
  have h26t := (fp16 _ (by omega)).trans h26t
  have h27t := (fp16 _ (by omega)).trans h27t
  have h28t := (fp16 _ (by omega)).trans h28t
  have hR5 : ∀ b, 5 ≤ b → b < 10 → hp16.2 b = hp5.2 b := fun b p q => (fp16 b (by omega)).trans (hR5 b p q)
  have hR19 : ∀ b, 19 ≤ b → b < 24 → hp16.2 b = hp11.2 b := fun b p q => (fp16 b (by omega)).trans (hR19 b p q)
  have hz : hp16.1 = (30, 5795) := hz
  refine go_putfK (pc' := 69) dX10_init_66 rfl pf_LandBase_45 (fun _ => rfl) hh (Nat.le_of_ble_eq_true rfl) rfl rfl (fun hp17 zp17 cp17 fp17 => ?_)
  dsimp only [List.set] at cp17
  have hz := zp17.trans hz
  have h1t := (fp17 _ (by omega)).trans h1t
  have h2t := (fp17 _ (by omega)).trans h2t
  have h3t := (fp17 _ (by omega)).trans h3t
  have h4t := (fp17 _ (by omega)).trans h4t
  have h10t := (fp17 _ (by omega)).trans h10t
  have h11t := (fp17 _ (by omega)).trans h11t
  have h12t := (fp17 _ (by omega)).trans h12t
  have h13t := (fp17 _ (by omega)).trans h13t
  have h14t := (fp17 _ (by omega)).trans h14t
  have h15t := (fp17 _ (by omega)).trans h15t
  have h16t := (fp17 _ (by omega)).trans h16t
  have h17t := (fp17 _ (by omega)).trans h17t
  have h18t := (fp17 _ (by omega)).trans h18t
  have h24t := (fp17 _ (by omega)).trans h24t
  have h25t := (fp17 _ (by omega)).trans h25t
  have h26t := (fp17 _ (by omega)).trans h26t
  have h27t := (fp17 _ (by omega)).trans h27t
  have h28t := (fp17 _ (by omega)).trans h28t
  have h29t := (fp17 _ (by omega)).trans h29t
  have hR5 : ∀ b, 5 ≤ b → b < 10 → hp17.2 b = hp5.2 b := fun b p q => (fp17 b (by omega)).trans (hR5 b p q)
  have hR19 : ∀ b, 19 ≤ b → b < 24 → hp17.2 b = hp11.2 b := fun b p q => (fp17 b (by omega)).trans (hR19 b p q)
  have hh := cp17
  first | refine go_aload_n (i := 0) (pc' := 70) dX10_init_69 rfl rfl rfl ?_ | refine go_aloadX_n (i := 0) (pc' := 70) dX10_init_69 rfl rfl rfl ?_ | refine go_aload_nN (i := 0) (pc' := 70) dX10_init_69 rfl rfl rfl ?_
  refine go_sipush (v := 200) (pc' := 73) dX10_init_70 rfl (by decide) ?_
  refine go_anewarrayK (t := 5) (N := 200) (pc' := 76) dX10_init_73 rfl (by decide) rfl wd_323 (by decide) (by decide) (by decide) hz (fun hp18 zp18 cp18 fp18 => ?_)
  have hz := zp18
  have hh := (fp18 _ (by omega)).trans hh
  have h1t := (fp18 _ (by omega)).trans h1t
  have h2t := (fp18 _ (by omega)).trans h2t
  have h3t := (fp18 _ (by omega)).trans h3t
  have h4t := (fp18 _ (by omega)).trans h4t
  have h10t := (fp18 _ (by omega)).trans h10t
  have h11t := (fp18 _ (by omega)).trans h11t
  have h12t := (fp18 _ (by omega)).trans h12t
  have h13t := (fp18 _ (by omega)).trans h13t
  have h14t := (fp18 _ (by omega)).trans h14t
  have h15t := (fp18 _ (by omega)).trans h15t
  have h16t := (fp18 _ (by omega)).trans h16t
  have h17t := (fp18 _ (by omega)).trans h17t
  have h18t := (fp18 _ (by omega)).trans h18t
  have h24t := (fp18 _ (by omega)).trans h24t
  have h25t := (fp18 _ (by omega)).trans h25t
  have h26t := (fp18 _ (by omega)).trans h26t
  have h27t := (fp18 _ (by omega)).trans h27t
  have h28t := (fp18 _ (by omega)).trans h28t
  have h29t := (fp18 _ (by omega)).trans h29t
  have hR5 : ∀ b, 5 ≤ b → b < 10 → hp18.2 b = hp5.2 b := fun b p q => (fp18 b (by omega)).trans (hR5 b p q)
  have hR19 : ∀ b, 19 ≤ b → b < 24 → hp18.2 b = hp11.2 b := fun b p q => (fp18 b (by omega)).trans (hR19 b p q)
  have h30t : hp18.2 _ = some (.inl (5, 200, .inr (.inr (.inr (.inr (fun _ => none)))))) := cp18
  refine go_putfK (pc' := 79) dX10_init_76 rfl pf_LandBase_51 (fun _ => rfl) hh (Nat.le_of_ble_eq_true rfl) rfl rfl (fun hp19 zp19 cp19 fp19 => ?_)
  dsimp only [List.set] at cp19
  have hz := zp19.trans hz
  have h1t := (fp19 _ (by omega)).trans h1t
  have h2t := (fp19 _ (by omega)).trans h2t
  have h3t := (fp19 _ (by omega)).trans h3t
  have h4t := (fp19 _ (by omega)).trans h4t
  have h10t := (fp19 _ (by omega)).trans h10t
  have h11t := (fp19 _ (by omega)).trans h11t
  have h12t := (fp19 _ (by omega)).trans h12t
  have h13t := (fp19 _ (by omega)).trans h13t
  have h14t := (fp19 _ (by omega)).trans h14t
  have h15t := (fp19 _ (by omega)).trans h15t
  have h16t := (fp19 _ (by omega)).trans h16t
  have h17t := (fp19 _ (by omega)).trans h17t
  have h18t := (fp19 _ (by omega)).trans h18t
  have h24t := (fp19 _ (by omega)).trans h24t
  have h25t := (fp19 _ (by omega)).trans h25t
  have h26t := (fp19 _ (by omega)).trans h26t
  have h27t := (fp19 _ (by omega)).trans h27t
  have h28t := (fp19 _ (by omega)).trans h28t
  have h29t := (fp19 _ (by omega)).trans h29t
  have h30t := (fp19 _ (by omega)).trans h30t
  have hR5 : ∀ b, 5 ≤ b → b < 10 → hp19.2 b = hp5.2 b := fun b p q => (fp19 b (by omega)).trans (hR5 b p q)
  have hR19 : ∀ b, 19 ≤ b → b < 24 → hp19.2 b = hp11.2 b := fun b p q => (fp19 b (by omega)).trans (hR19 b p q)
  have hh := cp19
  refine go_iconst (v := 0) (pc' := 80) dX10_init_79 rfl (by decide) ?_
  refine go_istore_n (i := 2) (pc' := 81) dX10_init_80 rfl rfl (by decide) rfl ?_
  have hz : hp19.1 = (31, 5995) := hz
  have hcur := hz
  refine g_Land_init (fs := [.ref 1, .ref 3, .ref 10, .ref 27, .ref 29, .ref 30, .null, .null, .int 0, .int 0, .int 0]) rfl rfl 200 0 _ _ rfl hz hh h30t (fun j hj => absurd hj (by omega)) (fun h50 f50 hz hh h30t h31t fr50 => ?_)
  have h1t := (fr50 _ (by omega) (by omega)).trans h1t
  have h2t := (fr50 _ (by omega) (by omega)).trans h2t
  have h3t := (fr50 _ (by omega) (by omega)).trans h3t
  have h4t := (fr50 _ (by omega) (by omega)).trans h4t
  have hR5' : ∀ b, 5 ≤ b → b < 10 → h50.2 b = _ := fun b p q => (fr50 b (by omega) (by omega)).trans (hR5 b p q)
  have h10t := (fr50 _ (by omega) (by omega)).trans h10t
  have h11t := (fr50 _ (by omega) (by omega)).trans h11t
  have h12t := (fr50 _ (by omega) (by omega)).trans h12t
  have h13t := (fr50 _ (by omega) (by omega)).trans h13t
  have h14t := (fr50 _ (by omega) (by omega)).trans h14t
  have h15t := (fr50 _ (by omega) (by omega)).trans h15t
  have h16t := (fr50 _ (by omega) (by omega)).trans h16t
  have h17t := (fr50 _ (by omega) (by omega)).trans h17t
  have h18t := (fr50 _ (by omega) (by omega)).trans h18t
  have hR19' : ∀ b, 19 ≤ b → b < 24 → h50.2 b = _ := fun b p q => (fr50 b (by omega) (by omega)).trans (hR19 b p q)
  have h24t := (fr50 _ (by omega) (by omega)).trans h24t
  have h25t := (fr50 _ (by omega) (by omega)).trans h25t
  have h26t := (fr50 _ (by omega) (by omega)).trans h26t
  have h27t := (fr50 _ (by omega) (by omega)).trans h27t
  have h28t := (fr50 _ (by omega) (by omega)).trans h28t
  have h29t := (fr50 _ (by omega) (by omega)).trans h29t
  have hS5 := hS5.kept (fun b p q => hR5' b (by omega) (by omega))
  have hS19 := hS19.kept (fun b p q => hR19' b (by omega) (by omega))
  have hfr : ∀ b, (0 < b ∧ b < 231) → h50.2 b = h50.2 b := fun _ _ => rfl
  first | refine go_aload_n (i := 0) (pc' := 108) dX10_init_107 rfl rfl rfl ?_ | refine go_aloadX_n (i := 0) (pc' := 108) dX10_init_107 rfl rfl rfl ?_ | refine go_aload_nN (i := 0) (pc' := 108) dX10_init_107 rfl rfl rfl ?_
  refine go_sipush (v := 200) (pc' := 111) dX10_init_108 rfl (by decide) ?_
  refine go_newarrayK (t := 0) (N := 200) (pc' := 113) dX10_init_111 rfl rfl (by decide) wd_149 (by decide) (by decide) (by decide) hz (fun hp51 zp51 cp51 fp51 => ?_)
  have hz := zp51
  have hh := (fp51 _ (by omega)).trans hh
  have hfr : ∀ b, (0 < b ∧ b < 231) → hp51.2 b = h50.2 b := fun b hb => (fp51 b (by omega)).trans (hfr b hb)
  have h231t : hp51.2 _ = some (.inl (0, 200, .inl (fun _ => 0))) := cp51
  refine go_putfK (pc' := 116) dX10_init_113 rfl pf_LandBase_56 (fun _ => rfl) hh (Nat.le_of_ble_eq_true rfl) rfl rfl (fun hp52 zp52 cp52 fp52 => ?_)
  dsimp only [List.set] at cp52
  have hz := zp52.trans hz
  have h231t := (fp52 _ (by omega)).trans h231t
  have hfr : ∀ b, (0 < b ∧ b < 231) → hp52.2 b = h50.2 b := fun b hb => (fp52 b (by omega)).trans (hfr b hb)
  have hh := cp52
  first | refine go_aload_n (i := 0) (pc' := 117) dX10_init_116 rfl rfl rfl ?_ | refine go_aloadX_n (i := 0) (pc' := 117) dX10_init_116 rfl rfl rfl ?_ | refine go_aload_nN (i := 0) (pc' := 117) dX10_init_116 rfl rfl rfl ?_
  refine go_sipush (v := 20000) (pc' := 120) dX10_init_117 rfl (by decide) ?_
  refine go_newarrayK (t := 0) (N := 20000) (pc' := 122) dX10_init_120 rfl rfl (by decide) wd_149 (by decide) (by decide) (by decide) hz (fun hp53 zp53 cp53 fp53 => ?_)
  have hz := zp53
  have hh := (fp53 _ (by omega)).trans hh
  have h231t := (fp53 _ (by omega)).trans h231t
  have hfr : ∀ b, (0 < b ∧ b < 231) → hp53.2 b = h50.2 b := fun b hb => (fp53 b (by omega)).trans (hfr b hb)
  have h232t : hp53.2 _ = some (.inl (0, 20000, .inl (fun _ => 0))) := cp53
  refine go_putfK (pc' := 125) dX10_init_122 rfl pf_LandBase_60 (fun _ => rfl) hh (Nat.le_of_ble_eq_true rfl) rfl rfl (fun hp54 zp54 cp54 fp54 => ?_)
  dsimp only [List.set] at cp54
  have hz := zp54.trans hz
  have h231t := (fp54 _ (by omega)).trans h231t
  have h232t := (fp54 _ (by omega)).trans h232t
  have hfr : ∀ b, (0 < b ∧ b < 231) → hp54.2 b = h50.2 b := fun b hb => (fp54 b (by omega)).trans (hfr b hb)
  have hh := cp54
  first | refine go_aload_n (i := 0) (pc' := 126) dX10_init_125 rfl rfl rfl ?_ | refine go_aloadX_n (i := 0) (pc' := 126) dX10_init_125 rfl rfl rfl ?_ | refine go_aload_nN (i := 0) (pc' := 126) dX10_init_125 rfl rfl rfl ?_
  refine go_iconst (v := 0) (pc' := 127) dX10_init_126 rfl (by decide) ?_
  refine go_putfK (pc' := 130) dX10_init_127 rfl pf_LandBase_63 (fun h => by cases h) hh (Nat.le_of_ble_eq_true rfl) rfl rfl (fun hp55 zp55 cp55 fp55 => ?_)
  dsimp only [List.set] at cp55
  have hz := zp55.trans hz
  have h231t := (fp55 _ (by omega)).trans h231t
  have h232t := (fp55 _ (by omega)).trans h232t
  have hfr : ∀ b, (0 < b ∧ b < 231) → hp55.2 b = h50.2 b := fun b hb => (fp55 b (by omega)).trans (hfr b hb)
  have hh := cp55
  first | refine go_aload_n (i := 0) (pc' := 131) dX10_init_130 rfl rfl rfl ?_ | refine go_aloadX_n (i := 0) (pc' := 131) dX10_init_130 rfl rfl rfl ?_ | refine go_aload_nN (i := 0) (pc' := 131) dX10_init_130 rfl rfl rfl ?_
  refine go_iconst (v := 0) (pc' := 132) dX10_init_131 rfl (by decide) ?_
  refine go_putfK (pc' := 135) dX10_init_132 rfl pf_LandBase_67 (fun h => by cases h) hh (Nat.le_of_ble_eq_true rfl) rfl rfl (fun hp56 zp56 cp56 fp56 => ?_)
  dsimp only [List.set] at cp56
  have hz := zp56.trans hz
  have h231t := (fp56 _ (by omega)).trans h231t
  have h232t := (fp56 _ (by omega)).trans h232t
  have hfr : ∀ b, (0 < b ∧ b < 231) → hp56.2 b = h50.2 b := fun b hb => (fp56 b (by omega)).trans (hfr b hb)
  have hh := cp56
  first | refine go_aload_n (i := 0) (pc' := 136) dX10_init_135 rfl rfl rfl ?_ | refine go_aloadX_n (i := 0) (pc' := 136) dX10_init_135 rfl rfl rfl ?_ | refine go_aload_nN (i := 0) (pc' := 136) dX10_init_135 rfl rfl rfl ?_
  refine go_iconst (v := (-1)) (pc' := 137) dX10_init_136 rfl (by decide) ?_
  refine go_putfK (pc' := 140) dX10_init_137 rfl pf_LandBase_70 (fun h => by cases h) hh (Nat.le_of_ble_eq_true rfl) rfl rfl (fun hp57 zp57 cp57 fp57 => ?_)
  dsimp only [List.set] at cp57
  have hz := zp57.trans hz
  have h231t := (fp57 _ (by omega)).trans h231t
  have h232t := (fp57 _ (by omega)).trans h232t
  have hfr : ∀ b, (0 < b ∧ b < 231) → hp57.2 b = h50.2 b := fun b hb => (fp57 b (by omega)).trans (hfr b hb)
  have hh := cp57
  refine Go.ret (v := none) dX10_init_140 rfl ⟨trivial, rfl, hz, hh, ⟨(hfr _ (by omega)).trans h1t, (hfr _ (by omega)).trans h2t⟩, ⟨(hfr _ (by omega)).trans h3t, (hfr _ (by omega)).trans h4t, hS5.kept (fun b p q => hfr b (by omega))⟩, ⟨(hfr _ (by omega)).trans h10t, (hfr _ (by omega)).trans h11t, (hfr _ (by omega)).trans h12t, (hfr _ (by omega)).trans h13t, (hfr _ (by omega)).trans h14t, (hfr _ (by omega)).trans h15t, (hfr _ (by omega)).trans h16t, (hfr _ (by omega)).trans h17t⟩, ⟨(hfr _ (by omega)).trans h18t, hS19.kept (fun b p q => hfr b (by omega)), (hfr _ (by omega)).trans h24t, (hfr _ (by omega)).trans h25t, (hfr _ (by omega)).trans h26t⟩, ⟨(hfr _ (by omega)).trans h27t, (hfr _ (by omega)).trans h28t, (hfr _ (by omega)).trans h29t⟩, ⟨f50, (hfr _ (by omega)).trans h30t, fun i hi => ⟨(h31t i hi).1, (hfr _ (by omega)).trans (h31t i hi).2⟩⟩, h231t, h232t⟩
end
section
/-! LandBaseModel() and its parts -/
def MSh (h : xH) (a : Nat) (id kind pl ri : Int32) (en xs ys : Nat → Int32) : Prop :=
  h.2 a = some (.inr (11, [.int id, .int kind, .int pl, .int ri, .ref (a + 1), .ref (a + 2), .ref (a + 3)])) ∧ h.2 (a + 1) = some (.inl (0, 8, .inl en)) ∧ h.2 (a + 2) = some (.inl (0, 40, .inl xs)) ∧ h.2 (a + 3) = some (.inl (0, 40, .inl ys))
def MSh0 (h : xH) (a : Nat) : Prop := MSh h a 0 0 0 0 (fun _ => 0) (fun _ => 0) (fun _ => 0)
theorem MSh0.kept {h h1 : xH} {a : Nat} (k : MSh0 h a) (f : ∀ b, a ≤ b → b < a + 4 → h1.2 b = h.2 b) : MSh0 h1 a :=
  ⟨(f a (by omega) (by omega)).trans k.1, (f (a + 1) (by omega) (by omega)).trans k.2.1, (f (a + 2) (by omega) (by omega)).trans k.2.2.1, (f (a + 3) (by omega) (by omega)).trans k.2.2.2⟩
def MDi (h : xH) (a : Nat) (nu de : Nat → Int64) : Prop :=
  h.2 a = some (.inr (10, [.ref (a + 1), .ref (a + 2)])) ∧ h.2 (a + 1) = some (.inl (2, 8, .inr (.inl nu))) ∧ h.2 (a + 2) = some (.inl (2, 8, .inr (.inl de)))
def MDi0 (h : xH) (a : Nat) : Prop := MDi h a (fun _ => 0) (fun _ => 0)
theorem MDi0.kept {h h1 : xH} {a : Nat} (k : MDi0 h a) (f : ∀ b, a ≤ b → b < a + 3 → h1.2 b = h.2 b) : MDi0 h1 a :=
  ⟨(f a (by omega) (by omega)).trans k.1, (f (a + 1) (by omega) (by omega)).trans k.2.1, (f (a + 2) (by omega) (by omega)).trans k.2.2⟩
set_option maxRecDepth 100000 in
theorem c_MShape_init {G : xG} {h : xH} {a n s : Nat} (hz : h.1 = (n, s)) (ha : a + 1 = n) (hh : h.2 a = some (.inr (11, [.int 0, .int 0, .int 0, .int 0, .null, .null, .null]))) : Ca G mX12_init [.ref a] h (fun v h' => v = none ∧ h'.1 = (n + 3, s + 88) ∧ MSh0 h' a ∧ ∀ b, b < a → h'.2 b = h.2 b) := by
  refine Ca.of rfl (Nat.le_of_ble_eq_true rfl) ?_
  subst ha
  have hfr : ∀ b, (b < a) → h.2 b = h.2 b := fun _ _ => rfl
  first | refine go_aload_n (i := 0) (pc' := 1) dX12_init_0 rfl rfl rfl ?_ | refine go_aloadX_n (i := 0) (pc' := 1) dX12_init_0 rfl rfl rfl ?_ | refine go_aload_nN (i := 0) (pc' := 1) dX12_init_0 rfl rfl rfl ?_
  refine go_objInit (pc' := 4) dX12_init_1 rfl wd_991 wd_28 wd_29 (by decide) (Nat.le_of_ble_eq_true rfl) ?_
  first | refine go_aload_n (i := 0) (pc' := 5) dX12_init_4 rfl rfl rfl ?_ | refine go_aloadX_n (i := 0) (pc' := 5) dX12_init_4 rfl rfl rfl ?_ | refine go_aload_nN (i := 0) (pc' := 5) dX12_init_4 rfl rfl rfl ?_
  refine go_bipush (v := 8) (pc' := 7) dX12_init_5 rfl (by decide) ?_
  refine go_newarrayK (t := 0) (N := 8) (pc' := 9) dX12_init_7 rfl rfl (by decide) wd_149 (by decide) (by decide) (by decide) hz (fun hp1 zp1 cp1 fp1 => ?_)
  have hz := zp1
  have hh := (fp1 _ (by omega)).trans hh
  have hfr : ∀ b, (b < a) → hp1.2 b = h.2 b := fun b hb => (fp1 b (by omega)).trans (hfr b hb)
  have he : hp1.2 _ = some (.inl (0, 8, .inl (fun _ => 0))) := cp1
  refine go_putfK (pc' := 12) dX12_init_9 rfl pf_LandBaseModel_Shape_9 (fun _ => rfl) hh (Nat.le_of_ble_eq_true rfl) rfl rfl (fun hp2 zp2 cp2 fp2 => ?_)
  dsimp only [List.set] at cp2
  have hz := zp2.trans hz
  have he := (fp2 _ (by omega)).trans he
  have hfr : ∀ b, (b < a) → hp2.2 b = h.2 b := fun b hb => (fp2 b (by omega)).trans (hfr b hb)
  have hh := cp2
  first | refine go_aload_n (i := 0) (pc' := 13) dX12_init_12 rfl rfl rfl ?_ | refine go_aloadX_n (i := 0) (pc' := 13) dX12_init_12 rfl rfl rfl ?_ | refine go_aload_nN (i := 0) (pc' := 13) dX12_init_12 rfl rfl rfl ?_
  refine go_bipush (v := 40) (pc' := 15) dX12_init_13 rfl (by decide) ?_
  refine go_newarrayK (t := 0) (N := 40) (pc' := 17) dX12_init_15 rfl rfl (by decide) wd_149 (by decide) (by decide) (by decide) hz (fun hp3 zp3 cp3 fp3 => ?_)
  have hz := zp3
  have hh := (fp3 _ (by omega)).trans hh
  have he := (fp3 _ (by omega)).trans he
  have hfr : ∀ b, (b < a) → hp3.2 b = h.2 b := fun b hb => (fp3 b (by omega)).trans (hfr b hb)
  have hx : hp3.2 _ = some (.inl (0, 40, .inl (fun _ => 0))) := cp3
  refine go_putfK (pc' := 20) dX12_init_17 rfl pf_LandBaseModel_Shape_15 (fun _ => rfl) hh (Nat.le_of_ble_eq_true rfl) rfl rfl (fun hp4 zp4 cp4 fp4 => ?_)
  dsimp only [List.set] at cp4
  have hz := zp4.trans hz
  have he := (fp4 _ (by omega)).trans he
  have hx := (fp4 _ (by omega)).trans hx
  have hfr : ∀ b, (b < a) → hp4.2 b = h.2 b := fun b hb => (fp4 b (by omega)).trans (hfr b hb)
  have hh := cp4
  first | refine go_aload_n (i := 0) (pc' := 21) dX12_init_20 rfl rfl rfl ?_ | refine go_aloadX_n (i := 0) (pc' := 21) dX12_init_20 rfl rfl rfl ?_ | refine go_aload_nN (i := 0) (pc' := 21) dX12_init_20 rfl rfl rfl ?_
  refine go_bipush (v := 40) (pc' := 23) dX12_init_21 rfl (by decide) ?_
  refine go_newarrayK (t := 0) (N := 40) (pc' := 25) dX12_init_23 rfl rfl (by decide) wd_149 (by decide) (by decide) (by decide) hz (fun hp5 zp5 cp5 fp5 => ?_)
  have hz := zp5
  have hh := (fp5 _ (by omega)).trans hh
  have he := (fp5 _ (by omega)).trans he
  have hx := (fp5 _ (by omega)).trans hx
  have hfr : ∀ b, (b < a) → hp5.2 b = h.2 b := fun b hb => (fp5 b (by omega)).trans (hfr b hb)
  have hy : hp5.2 _ = some (.inl (0, 40, .inl (fun _ => 0))) := cp5
  refine go_putfK (pc' := 28) dX12_init_25 rfl pf_LandBaseModel_Shape_18 (fun _ => rfl) hh (Nat.le_of_ble_eq_true rfl) rfl rfl (fun hp6 zp6 cp6 fp6 => ?_)
  dsimp only [List.set] at cp6
  have hz := zp6.trans hz
  have he := (fp6 _ (by omega)).trans he
  have hx := (fp6 _ (by omega)).trans hx
  have hy := (fp6 _ (by omega)).trans hy
  have hfr : ∀ b, (b < a) → hp6.2 b = h.2 b := fun b hb => (fp6 b (by omega)).trans (hfr b hb)
  have hh := cp6
  exact Go.ret (v := none) dX12_init_28 rfl ⟨trivial,rfl,hz,⟨hh,he,hx,hy⟩,hfr⟩
set_option maxRecDepth 100000 in
theorem c_MDist_init {G : xG} {h : xH} {a n s : Nat} (hz : h.1 = (n, s)) (ha : a + 1 = n) (hh : h.2 a = some (.inr (10, [.null, .null]))) : Ca G mX11_init [.ref a] h (fun v h' => v = none ∧ h'.1 = (n + 2, s + 16) ∧ MDi0 h' a ∧ ∀ b, b < a → h'.2 b = h.2 b) := by
  refine Ca.of rfl (Nat.le_of_ble_eq_true rfl) ?_
  subst ha
  have hfr : ∀ b, (b < a) → h.2 b = h.2 b := fun _ _ => rfl
  first | refine go_aload_n (i := 0) (pc' := 1) dX11_init_0 rfl rfl rfl ?_ | refine go_aloadX_n (i := 0) (pc' := 1) dX11_init_0 rfl rfl rfl ?_ | refine go_aload_nN (i := 0) (pc' := 1) dX11_init_0 rfl rfl rfl ?_
  refine go_objInit (pc' := 4) dX11_init_1 rfl wd_1027 wd_28 wd_29 (by decide) (Nat.le_of_ble_eq_true rfl) ?_
  first | refine go_aload_n (i := 0) (pc' := 5) dX11_init_4 rfl rfl rfl ?_ | refine go_aloadX_n (i := 0) (pc' := 5) dX11_init_4 rfl rfl rfl ?_ | refine go_aload_nN (i := 0) (pc' := 5) dX11_init_4 rfl rfl rfl ?_
  refine go_bipush (v := 8) (pc' := 7) dX11_init_5 rfl (by decide) ?_
  refine go_newarrayK (t := 2) (N := 8) (pc' := 9) dX11_init_7 rfl rfl (by decide) wd_299 (by decide) (by decide) (by decide) hz (fun hp1 zp1 cp1 fp1 => ?_)
  have hz := zp1
  have hh := (fp1 _ (by omega)).trans hh
  have hfr : ∀ b, (b < a) → hp1.2 b = h.2 b := fun b hb => (fp1 b (by omega)).trans (hfr b hb)
  have hn : hp1.2 _ = some (.inl (2, 8, .inr (.inl (fun _ => 0)))) := cp1
  refine go_putfK (pc' := 12) dX11_init_9 rfl pf_LandBaseModel_Distance_9 (fun _ => rfl) hh (Nat.le_of_ble_eq_true rfl) rfl rfl (fun hp2 zp2 cp2 fp2 => ?_)
  dsimp only [List.set] at cp2
  have hz := zp2.trans hz
  have hn := (fp2 _ (by omega)).trans hn
  have hfr : ∀ b, (b < a) → hp2.2 b = h.2 b := fun b hb => (fp2 b (by omega)).trans (hfr b hb)
  have hh := cp2
  first | refine go_aload_n (i := 0) (pc' := 13) dX11_init_12 rfl rfl rfl ?_ | refine go_aloadX_n (i := 0) (pc' := 13) dX11_init_12 rfl rfl rfl ?_ | refine go_aload_nN (i := 0) (pc' := 13) dX11_init_12 rfl rfl rfl ?_
  refine go_bipush (v := 8) (pc' := 15) dX11_init_13 rfl (by decide) ?_
  refine go_newarrayK (t := 2) (N := 8) (pc' := 17) dX11_init_15 rfl rfl (by decide) wd_299 (by decide) (by decide) (by decide) hz (fun hp3 zp3 cp3 fp3 => ?_)
  have hz := zp3
  have hh := (fp3 _ (by omega)).trans hh
  have hn := (fp3 _ (by omega)).trans hn
  have hfr : ∀ b, (b < a) → hp3.2 b = h.2 b := fun b hb => (fp3 b (by omega)).trans (hfr b hb)
  have hd : hp3.2 _ = some (.inl (2, 8, .inr (.inl (fun _ => 0)))) := cp3
  refine go_putfK (pc' := 20) dX11_init_17 rfl pf_LandBaseModel_Distance_15 (fun _ => rfl) hh (Nat.le_of_ble_eq_true rfl) rfl rfl (fun hp4 zp4 cp4 fp4 => ?_)
  dsimp only [List.set] at cp4
  have hz := zp4.trans hz
  have hn := (fp4 _ (by omega)).trans hn
  have hd := (fp4 _ (by omega)).trans hd
  have hfr : ∀ b, (b < a) → hp4.2 b = h.2 b := fun b hb => (fp4 b (by omega)).trans (hfr b hb)
  have hh := cp4
  exact Go.ret (v := none) dX11_init_20 rfl ⟨trivial,rfl,hz,⟨hh,hn,hd⟩,hfr⟩
/-- a state of the reference: its cell, its row, 200 shapes of four cells each -/
def MSt (h : xH) (a : Nat) (f : Nat → Option Nat) (c : Int32) : Prop := h.2 a = some (.inr (12, [.ref (a + 1), .int c])) ∧ h.2 (a + 1) = some (.inl (6, 200, .inr (.inr (.inr (.inr f)))))
def MSt0 (h : xH) (a : Nat) : Prop := ∃ f, MSt h a f 0 ∧ ∀ i, i < 200 → f i = some (a + 2 + 4 * i) ∧ MSh0 h (a + 2 + 4 * i)
theorem MSt0.kept {h h1 : xH} {a : Nat} (k : MSt0 h a) (f : ∀ b, a ≤ b → b < a + 802 → h1.2 b = h.2 b) : MSt0 h1 a := by
  obtain ⟨g, ⟨k1, k2⟩, k3⟩ := k
  exact ⟨g, ⟨(f a (by omega) (by omega)).trans k1, (f (a + 1) (by omega) (by omega)).trans k2⟩, fun i hi => ⟨(k3 i hi).1, (k3 i hi).2.kept (fun b p q => f b (by omega) (by omega))⟩⟩
set_option maxRecDepth 100000 in
theorem g_MState_init {G : xG} {P : Option Value → xH → Prop} {a s : Nat} :
    ∀ (m i : Nat) (h : xH) (f : Nat → Option Nat), i + m = 200 → h.1 = (a + 2 + 4 * i, s + 95 * i) → h.2 a = some (.inr (12, [.ref (a + 1), .int 0])) → h.2 (a + 1) = some (.inl (6, 200, .inr (.inr (.inr (.inr f))))) → (∀ j, j < i → f j = some (a + 2 + 4 * j) ∧ MSh0 h (a + 2 + 4 * j)) →
    (∀ (h' : xH) (f' : Nat → Option Nat), h'.1 = (a + 802, s + 19000) → MSt h' a f' 0 → (∀ j, j < 200 → f' j = some (a + 2 + 4 * j) ∧ MSh0 h' (a + 2 + 4 * j)) → (∀ b, b < a → h'.2 b = h.2 b) → Go G mX13_init 42 [some (.ref a), some (.int 200)] [] h' P) →
    Go G mX13_init 16 [some (.ref a), some (.int (nI i))] [] h P := by
  intro m
  induction m with
  | zero =>
    intro i h f him hz h0 h1 hj k
    have hi : i = 200 := by omega
    subst hi
    refine go_iload_n (i := 1) (pc' := 17) dX13_init_16 rfl rfl rfl ?_
    refine go_sipush (v := 200) (pc' := 20) dX13_init_17 rfl (by decide) ?_
    refine go_icmp_ge (pc' := 23) (tgt := 42) dX13_init_20 (by decide) rfl (fun c1 => ?_) (fun c1 => ?_)
    · exact k h f hz ⟨h0, h1⟩ hj (fun _ _ => rfl)
    · exact absurd (by decide) c1
  | succ m ih =>
    intro i h f him hz h0 h1a hj k
    have hin : vp_in (nI i) 200 := vp_in_nI (by omega) (by omega)
    have hc : (nI i).toNatClampNeg = i := nI_clamp (by omega)
    refine go_iload_n (i := 1) (pc' := 17) dX13_init_16 rfl rfl rfl ?_
    refine go_sipush (v := 200) (pc' := 20) dX13_init_17 rfl (by decide) ?_
    refine go_icmp_ge (pc' := 23) (tgt := 42) dX13_init_20 (by decide) rfl (fun c1 => ?_) (fun c1 => ?_)
    · exact absurd c1 (nI_ge (a := i) (b := 200) (by omega) (by omega))
    · first | refine go_aload_n (i := 0) (pc' := 24) dX13_init_23 rfl rfl rfl ?_ | refine go_aloadX_n (i := 0) (pc' := 24) dX13_init_23 rfl rfl rfl ?_ | refine go_aload_nN (i := 0) (pc' := 24) dX13_init_23 rfl rfl rfl ?_
      refine go_getf (pc' := 27) dX13_init_24 rfl gf_LandBaseModel_State_11 h0 rfl ?_
      refine go_iload_n (i := 1) (pc' := 28) dX13_init_27 rfl rfl rfl ?_
      refine go_newK (pc' := 31) dX13_init_28 rfl nw_LandBaseModel_State_9 hz (fun hp1 zp1 cp1 fp1 => ?_)
      have hz := zp1
      have h0 := (fp1 _ (by omega)).trans h0
      have h1a := (fp1 _ (by omega)).trans h1a
      have hD := cp1
      refine go_dup (pc' := 32) dX13_init_31 rfl rfl ?_
      refine go_invIN (As := []) (pc' := 35) dX13_init_32 rfl cf_X13_init_17 rfl rfl (Nat.le_of_ble_eq_true rfl) (c_MShape_init (hz:=hz) (ha:=rfl) (hh:=hD)) (fun vp2 hp2 qp2 => ?_)
      obtain ⟨rfl, hz, hD, fp2⟩ := qp2
      have h0 := (fp2 _ (by omega)).trans h0
      have h1a := (fp2 _ (by omega)).trans h1a
      refine go_aastoreK (pc' := 36) dX13_init_35 rfl (by decide) rfl rfl h1a hD.1 hin (fun hp3 zp3 cp3 fp3 => ?_)
      have hz := zp3.trans hz
      have h0 := (fp3 _ (by omega)).trans h0
      have h1a := cp3
      refine go_iincC (kk := 1) (pc' := 39) dX13_init_36 rfl rfl (by decide) (by decide) rfl ?_
      refine go_goto (pc' := 0) (tgt := 16) dX13_init_39 (by decide) ?_
      rw [hc] at h1a
      rw [nI_1]
      refine ih (i + 1) _ _ (by omega) (by rw [hz]; congr 1) h0 h1a (fun j hj2 => ?_) (fun h' f' e1 e2 e3 e5 => k h' f' e1 e2 e3 (fun b q => (e5 b q).trans ?_))
      · by_cases e : j = i
        · subst e
          exact ⟨by simp [va_up], hD.kept (fun b p q => fp3 b (by omega))⟩
        · refine ⟨by simp [va_up, e, (hj j (by omega)).1], (hj j (by omega)).2.kept (fun b p q => ?_)⟩
          rw [fp3 _ (by omega), fp2 _ (by omega), fp1 _ (by omega)]
      · rw [fp3 _ (by omega), fp2 _ (by omega), fp1 _ (by omega)]
set_option maxRecDepth 100000 in
theorem c_MState_init {G : xG} {h : xH} {a n s : Nat} (hz : h.1 = (n, s)) (ha : a + 1 = n) (hh : h.2 a = some (.inr (12, [.null, .int 0]))) : Ca G mX13_init [.ref a] h (fun v h' => v = none ∧ h'.1 = (n + 801, s + 19200) ∧ MSt0 h' a ∧ ∀ b, b < a → h'.2 b = h.2 b) := by
  refine Ca.of rfl (Nat.le_of_ble_eq_true rfl) ?_
  subst ha
  first | refine go_aload_n (i := 0) (pc' := 1) dX13_init_0 rfl rfl rfl ?_ | refine go_aloadX_n (i := 0) (pc' := 1) dX13_init_0 rfl rfl rfl ?_ | refine go_aload_nN (i := 0) (pc' := 1) dX13_init_0 rfl rfl rfl ?_
  refine go_objInit (pc' := 4) dX13_init_1 rfl wd_1042 wd_28 wd_29 (by decide) (Nat.le_of_ble_eq_true rfl) ?_
  first | refine go_aload_n (i := 0) (pc' := 5) dX13_init_4 rfl rfl rfl ?_ | refine go_aloadX_n (i := 0) (pc' := 5) dX13_init_4 rfl rfl rfl ?_ | refine go_aload_nN (i := 0) (pc' := 5) dX13_init_4 rfl rfl rfl ?_
  refine go_sipush (v := 200) (pc' := 8) dX13_init_5 rfl (by decide) ?_
  refine go_anewarrayK (t := 6) (N := 200) (pc' := 11) dX13_init_8 rfl (by decide) rfl wd_1043 (by decide) (by decide) (by decide) hz (fun hp1 zp1 cp1 fp1 => ?_)
  have hz := zp1
  have hh := (fp1 _ (by omega)).trans hh
  have hx : hp1.2 _ = some (.inl (6, 200, .inr (.inr (.inr (.inr (fun _ => none)))))) := cp1
  refine go_putfK (pc' := 14) dX13_init_11 rfl pf_LandBaseModel_State_11 (fun _ => rfl) hh (Nat.le_of_ble_eq_true rfl) rfl rfl (fun hp2 zp2 cp2 fp2 => ?_)
  dsimp only [List.set] at cp2
  have hz := zp2.trans hz
  have hx := (fp2 _ (by omega)).trans hx
  have hh := cp2
  refine go_iconst (v := 0) (pc' := 15) dX13_init_14 rfl (by decide) ?_
  refine go_istore_n (i := 1) (pc' := 16) dX13_init_15 rfl rfl (by decide) rfl ?_
  refine g_MState_init (s := s + 200) 200 0 _ _ rfl hz hh hx (fun j hj => absurd hj (by omega)) (fun h' f' e1 e2 e3 e4 => ?_)
  exact Go.ret (v := none) dX13_init_42 rfl ⟨trivial,rfl,e1,⟨f',e2,e3⟩,(fun b hb => by rw [e4 b hb, fp2 b (by omega), fp1 b (by omega)])⟩
end
section
/-! LandBaseModel() -/
def mF0 (k : Nat) : Value := if k ∈ [0, 1, 2, 3, 14, 15, 23, 24, 25, 26, 27, 28, 29, 30, 31, 39, 43, 49, 52, 53, 54, 55] then .null else if k ∈ [10, 11, 12, 20, 21] then .long 0 else .int 0
/-- the references of the reference's object never change -/
def MC (F : Nat → Value) : Prop := F 0 = .ref 234 ∧ F 1 = .ref 235 ∧ F 2 = .ref 236 ∧ F 3 = .ref 237 ∧ F 14 = .ref 238 ∧ F 15 = .ref 239 ∧ F 23 = .ref 240 ∧ F 24 = .ref 241 ∧ F 25 = .ref 245 ∧ F 26 = .ref 249 ∧ F 27 = .ref 250 ∧ F 28 = .ref 253 ∧ F 29 = .ref 256 ∧ F 30 = .ref 259 ∧ F 31 = .ref 1061 ∧ F 39 = .ref 1863 ∧ F 43 = .ref 1864 ∧ F 49 = .ref 1865 ∧ F 52 = .ref 1869 ∧ F 53 = .ref 1870 ∧ F 54 = .ref 1874 ∧ F 55 = .ref 1875
/-- its numbers at the start -/
def MF0 (F : Nat → Value) : Prop := F 32 = .int 0 ∧ F 33 = .int 0 ∧ F 34 = .int 0 ∧ F 35 = .int 0 ∧ F 36 = .int 0 ∧ F 37 = .int (-1) ∧ F 38 = .int 0 ∧ F 40 = .int 0 ∧ F 41 = .int 0 ∧ F 42 = .int (-1) ∧ F 44 = .int 0 ∧ F 45 = .int 0 ∧ F 46 = .int 0 ∧ F 47 = .int 0 ∧ F 48 = .int 0
/-- what LandBaseModel() leaves, at 233 .. 2475 -/
def MIn (h : xH) : Prop :=
  (∃ F, h.2 233 = some (.inr (13, mkF F 58)) ∧ MC F ∧ MF0 F) ∧
  (h.2 234 = some (.inl (2, 8, .inr (.inl (fun _ => 0)))) ∧ h.2 235 = some (.inl (2, 8, .inr (.inl (fun _ => 0)))) ∧ h.2 236 = some (.inl (2, 8, .inr (.inl (fun _ => 0)))) ∧ h.2 237 = some (.inl (2, 8, .inr (.inl (fun _ => 0)))) ∧ h.2 238 = some (.inl (2, 82, .inr (.inl (fun _ => 0)))) ∧ h.2 239 = some (.inl (2, 82, .inr (.inl (fun _ => 0)))) ∧ h.2 240 = some (.inl (3, 8, .inl (fun _ => 0)))) ∧
  (MSh0 h 241 ∧ MSh0 h 245 ∧ h.2 249 = some (.inl (0, 8, .inl (fun _ => 0))) ∧ MDi0 h 250 ∧ MDi0 h 253 ∧ MDi0 h 256 ∧ MSt0 h 259 ∧ MSt0 h 1061) ∧
  (h.2 1863 = some (.inl (0, 4000, .inl (fun _ => 0))) ∧ h.2 1864 = some (.inl (0, 30000, .inl (fun _ => 0))) ∧ MSh0 h 1865 ∧ h.2 1869 = some (.inl (0, 8, .inl (fun _ => 0))) ∧ MSh0 h 1870 ∧ h.2 1875 = some (.inl (0, 200, .inl (fun _ => 0)))) ∧
  (∃ f : Nat → Option Nat, h.2 1874 = some (.inl (7, 200, .inr (.inr (.inr (.inr f))))) ∧ (∀ i, i < 200 → f i = some (1876 + 3 * i) ∧ MDi0 h (1876 + 3 * i)))
set_option maxRecDepth 100000 in
theorem g_Model_init {G : xG} {P : Option Value → xH → Prop} {F : Nat → Value} (hF : F 54 = .ref 1874) :
    ∀ (m i : Nat) (h : xH) (f : Nat → Option Nat), i + m = 200 → h.1 = (1876 + 3 * i, 100311 + 18 * i) → h.2 233 = some (.inr (13, mkF F 58)) → h.2 1874 = some (.inl (7, 200, .inr (.inr (.inr (.inr f))))) → (∀ j, j < i → f j = some (1876 + 3 * j) ∧ MDi0 h (1876 + 3 * j)) →
    (∀ (h' : xH) (f' : Nat → Option Nat), h'.1 = (2476, 103911) → h'.2 233 = some (.inr (13, mkF F 58)) → h'.2 1874 = some (.inl (7, 200, .inr (.inr (.inr (.inr f'))))) → (∀ j, j < 200 → f' j = some (1876 + 3 * j) ∧ MDi0 h' (1876 + 3 * j)) → (∀ b, (b < 1876 ∧ b ≠ 233 ∧ b ≠ 1874) → h'.2 b = h.2 b) → Go G mX14_init 250 [some (.ref 233), some (.int 200)] [] h' P) →
    Go G mX14_init 224 [some (.ref 233), some (.int (nI i))] [] h P := by
  intro m
  induction m with
  | zero =>
    intro i h f him hz h0 h30 hj k
    have hi : i = 200 := by omega
    subst hi
    refine go_iload_n (i := 1) (pc' := 225) dX14_init_224 rfl rfl rfl ?_
    refine go_sipush (v := 200) (pc' := 228) dX14_init_225 rfl (by decide) ?_
    refine go_icmp_ge (pc' := 231) (tgt := 250) dX14_init_228 (by decide) rfl (fun c1 => ?_) (fun c1 => ?_)
    · exact k h f hz h0 h30 hj (fun _ _ => rfl)
    · exact absurd (by decide) c1
  | succ m ih =>
    intro i h f him hz h0 h30 hj k
    have hin : vp_in (nI i) 200 := vp_in_nI (by omega) (by omega)
    have hc : (nI i).toNatClampNeg = i := nI_clamp (by omega)
    refine go_iload_n (i := 1) (pc' := 225) dX14_init_224 rfl rfl rfl ?_
    refine go_sipush (v := 200) (pc' := 228) dX14_init_225 rfl (by decide) ?_
    refine go_icmp_ge (pc' := 231) (tgt := 250) dX14_init_228 (by decide) rfl (fun c1 => ?_) (fun c1 => ?_)
    · exact absurd c1 (nI_ge (a := i) (b := 200) (by omega) (by omega))
    · first | refine go_aload_n (i := 0) (pc' := 232) dX14_init_231 rfl rfl rfl ?_ | refine go_aloadX_n (i := 0) (pc' := 232) dX14_init_231 rfl rfl rfl ?_ | refine go_aload_nN (i := 0) (pc' := 232) dX14_init_231 rfl rfl rfl ?_
      refine go_getfF (pc' := 235) dX14_init_232 rfl gf_LandBaseModel_477 h0 (by decide) hF ?_
      refine go_iload_n (i := 1) (pc' := 236) dX14_init_235 rfl rfl rfl ?_
      refine go_newK (pc' := 239) dX14_init_236 rfl nw_LandBaseModel_289 hz (fun hp1 zp1 cp1 fp1 => ?_)
      have hz := zp1
      have h0 := (fp1 _ (by omega)).trans h0
      have h30 := (fp1 _ (by omega)).trans h30
      have hD := cp1
      refine go_dup (pc' := 240) dX14_init_239 rfl rfl ?_
      refine go_invIN (As := []) (pc' := 243) dX14_init_240 rfl cf_X14_init_463 rfl rfl (Nat.le_of_ble_eq_true rfl) (c_MDist_init (hz:=hz) (ha:=rfl) (hh:=hD)) (fun vp2 hp2 qp2 => ?_)
      obtain ⟨rfl, hz, hD, fp2⟩ := qp2
      have h0 := (fp2 _ (by omega)).trans h0
      have h30 := (fp2 _ (by omega)).trans h30
      refine go_aastoreK (pc' := 244) dX14_init_243 rfl (by decide) rfl rfl h30 hD.1 hin (fun hp3 zp3 cp3 fp3 => ?_)
      have hz := zp3.trans hz
      have h0 := (fp3 _ (by omega)).trans h0
      have h30 := cp3
      refine go_iincC (kk := 1) (pc' := 247) dX14_init_244 rfl rfl (by decide) (by decide) rfl ?_
      refine go_goto (pc' := 0) (tgt := 224) dX14_init_247 (by decide) ?_
      rw [hc] at h30
      rw [nI_1]
      refine ih (i + 1) _ _ (by omega) (by rw [hz]; congr 1) h0 h30 (fun j hj2 => ?_) (fun h' f' e1 e2 e3 e4 e5 => k h' f' e1 e2 e3 e4 (fun b p => (e5 b p).trans ?_))
      · by_cases e : j = i
        · subst e
          exact ⟨by simp [va_up], hD.kept (fun b p q => fp3 b (by omega))⟩
        · refine ⟨by simp [va_up, e, (hj j (by omega)).1], (hj j (by omega)).2.kept (fun b p q => ?_)⟩
          rw [fp3 _ (by omega), fp2 _ (by omega), fp1 _ (by omega)]
      · rw [fp3 _ (by omega), fp2 _ (by omega), fp1 _ (by omega)]
set_option maxRecDepth 100000 in
set_option maxHeartbeats 4000000 in
theorem c_Model_init {G : xG} {h : xH} (hz : h.1 = (234, 26853)) (hh : h.2 233 = some (.inr (13, mkF mF0 58))) : Ca G mX14_init [.ref 233] h (fun v h' => v = none ∧ h'.1 = (2476, 103911) ∧ MIn h' ∧ ∀ b, b < 233 → h'.2 b = h.2 b) := by
  refine Ca.of rfl (Nat.le_of_ble_eq_true rfl) ?_
  have hfr : ∀ b, (b < 233) → h.2 b = h.2 b := fun _ _ => rfl
  first | refine go_aload_n (i := 0) (pc' := 1) dX14_init_0 rfl rfl rfl ?_ | refine go_aloadX_n (i := 0) (pc' := 1) dX14_init_0 rfl rfl rfl ?_ | refine go_aload_nN (i := 0) (pc' := 1) dX14_init_0 rfl rfl rfl ?_
  refine go_objInit (pc' := 4) dX14_init_1 rfl wd_985 wd_28 wd_29 (by decide) (Nat.le_of_ble_eq_true rfl) ?_
  first | refine go_aload_n (i := 0) (pc' := 5) dX14_init_4 rfl rfl rfl ?_ | refine go_aloadX_n (i := 0) (pc' := 5) dX14_init_4 rfl rfl rfl ?_ | refine go_aload_nN (i := 0) (pc' := 5) dX14_init_4 rfl rfl rfl ?_
  refine go_bipush (v := 8) (pc' := 7) dX14_init_5 rfl (by decide) ?_
  refine go_newarrayK (t := 2) (N := 8) (pc' := 9) dX14_init_7 rfl rfl (by decide) wd_299 (by decide) (by decide) (by decide) hz (fun hp1 zp1 cp1 fp1 => ?_)
  have hz := zp1
  have hh := (fp1 _ (by omega)).trans hh
  have hfr : ∀ b, (b < 233) → hp1.2 b = h.2 b := fun b hb => (fp1 b (by omega)).trans (hfr b hb)
  have a34 : hp1.2 _ = some (.inl (2, 8, .inr (.inl (fun _ => 0)))) := cp1
  refine go_putfF (pc' := 12) dX14_init_9 rfl pf_LandBaseModel_5 (fun _ => rfl) hh (by decide) rfl rfl (fun hp2 zp2 cp2 fp2 => ?_)
  have hz := zp2.trans hz
  have a34 := (fp2 _ (by omega)).trans a34
  have hfr : ∀ b, (b < 233) → hp2.2 b = h.2 b := fun b hb => (fp2 b (by omega)).trans (hfr b hb)
  have hh := cp2
  first | refine go_aload_n (i := 0) (pc' := 13) dX14_init_12 rfl rfl rfl ?_ | refine go_aloadX_n (i := 0) (pc' := 13) dX14_init_12 rfl rfl rfl ?_ | refine go_aload_nN (i := 0) (pc' := 13) dX14_init_12 rfl rfl rfl ?_
  refine go_bipush (v := 8) (pc' := 15) dX14_init_13 rfl (by decide) ?_
  refine go_newarrayK (t := 2) (N := 8) (pc' := 17) dX14_init_15 rfl rfl (by decide) wd_299 (by decide) (by decide) (by decide) hz (fun hp3 zp3 cp3 fp3 => ?_)
  have hz := zp3
  have hh := (fp3 _ (by omega)).trans hh
  have a34 := (fp3 _ (by omega)).trans a34
  have hfr : ∀ b, (b < 233) → hp3.2 b = h.2 b := fun b hb => (fp3 b (by omega)).trans (hfr b hb)
  have a35 : hp3.2 _ = some (.inl (2, 8, .inr (.inl (fun _ => 0)))) := cp3
  refine go_putfF (pc' := 20) dX14_init_17 rfl pf_LandBaseModel_13 (fun _ => rfl) hh (by decide) rfl rfl (fun hp4 zp4 cp4 fp4 => ?_)
  have hz := zp4.trans hz
  have a34 := (fp4 _ (by omega)).trans a34
  have a35 := (fp4 _ (by omega)).trans a35
  have hfr : ∀ b, (b < 233) → hp4.2 b = h.2 b := fun b hb => (fp4 b (by omega)).trans (hfr b hb)
  have hh := cp4
  first | refine go_aload_n (i := 0) (pc' := 21) dX14_init_20 rfl rfl rfl ?_ | refine go_aloadX_n (i := 0) (pc' := 21) dX14_init_20 rfl rfl rfl ?_ | refine go_aload_nN (i := 0) (pc' := 21) dX14_init_20 rfl rfl rfl ?_
  refine go_bipush (v := 8) (pc' := 23) dX14_init_21 rfl (by decide) ?_
  refine go_newarrayK (t := 2) (N := 8) (pc' := 25) dX14_init_23 rfl rfl (by decide) wd_299 (by decide) (by decide) (by decide) hz (fun hp5 zp5 cp5 fp5 => ?_)
  have hz := zp5
  have hh := (fp5 _ (by omega)).trans hh
  have a34 := (fp5 _ (by omega)).trans a34
  have a35 := (fp5 _ (by omega)).trans a35
  have hfr : ∀ b, (b < 233) → hp5.2 b = h.2 b := fun b hb => (fp5 b (by omega)).trans (hfr b hb)
  have a36 : hp5.2 _ = some (.inl (2, 8, .inr (.inl (fun _ => 0)))) := cp5
  refine go_putfF (pc' := 28) dX14_init_25 rfl pf_LandBaseModel_16 (fun _ => rfl) hh (by decide) rfl rfl (fun hp6 zp6 cp6 fp6 => ?_)
  have hz := zp6.trans hz
  have a34 := (fp6 _ (by omega)).trans a34
  have a35 := (fp6 _ (by omega)).trans a35
  have a36 := (fp6 _ (by omega)).trans a36
  have hfr : ∀ b, (b < 233) → hp6.2 b = h.2 b := fun b hb => (fp6 b (by omega)).trans (hfr b hb)
  have hh := cp6
  first | refine go_aload_n (i := 0) (pc' := 29) dX14_init_28 rfl rfl rfl ?_ | refine go_aloadX_n (i := 0) (pc' := 29) dX14_init_28 rfl rfl rfl ?_ | refine go_aload_nN (i := 0) (pc' := 29) dX14_init_28 rfl rfl rfl ?_
  refine go_bipush (v := 8) (pc' := 31) dX14_init_29 rfl (by decide) ?_
  refine go_newarrayK (t := 2) (N := 8) (pc' := 33) dX14_init_31 rfl rfl (by decide) wd_299 (by decide) (by decide) (by decide) hz (fun hp7 zp7 cp7 fp7 => ?_)
  have hz := zp7
  have hh := (fp7 _ (by omega)).trans hh
  have a34 := (fp7 _ (by omega)).trans a34
  have a35 := (fp7 _ (by omega)).trans a35
  have a36 := (fp7 _ (by omega)).trans a36
  have hfr : ∀ b, (b < 233) → hp7.2 b = h.2 b := fun b hb => (fp7 b (by omega)).trans (hfr b hb)
  have a37 : hp7.2 _ = some (.inl (2, 8, .inr (.inl (fun _ => 0)))) := cp7
  refine go_putfF (pc' := 36) dX14_init_33 rfl pf_LandBaseModel_23 (fun _ => rfl) hh (by decide) rfl rfl (fun hp8 zp8 cp8 fp8 => ?_)
  have hz := zp8.trans hz
  have a34 := (fp8 _ (by omega)).trans a34
  have a35 := (fp8 _ (by omega)).trans a35
  have a36 := (fp8 _ (by omega)).trans a36
  have a37 := (fp8 _ (by omega)).trans a37
  have hfr : ∀ b, (b < 233) → hp8.2 b = h.2 b := fun b hb => (fp8 b (by omega)).trans (hfr b hb)
  have hh := cp8
  have hz : hp8.1 = (238, 26885) := hz
  first | refine go_aload_n (i := 0) (pc' := 37) dX14_init_36 rfl rfl rfl ?_ | refine go_aloadX_n (i := 0) (pc' := 37) dX14_init_36 rfl rfl rfl ?_ | refine go_aload_nN (i := 0) (pc' := 37) dX14_init_36 rfl rfl rfl ?_
  refine go_bipush (v := 82) (pc' := 39) dX14_init_37 rfl (by decide) ?_
  refine go_newarrayK (t := 2) (N := 82) (pc' := 41) dX14_init_39 rfl rfl (by decide) wd_299 (by decide) (by decide) (by decide) hz (fun hp9 zp9 cp9 fp9 => ?_)
  have hz := zp9
  have hh := (fp9 _ (by omega)).trans hh
  have a34 := (fp9 _ (by omega)).trans a34
  have a35 := (fp9 _ (by omega)).trans a35
  have a36 := (fp9 _ (by omega)).trans a36
  have a37 := (fp9 _ (by omega)).trans a37
  have hfr : ∀ b, (b < 233) → hp9.2 b = h.2 b := fun b hb => (fp9 b (by omega)).trans (hfr b hb)
  have a38 : hp9.2 _ = some (.inl (2, 82, .inr (.inl (fun _ => 0)))) := cp9
  refine go_putfF (pc' := 44) dX14_init_41 rfl pf_LandBaseModel_111 (fun _ => rfl) hh (by decide) rfl rfl (fun hp10 zp10 cp10 fp10 => ?_)
  have hz := zp10.trans hz
  have a34 := (fp10 _ (by omega)).trans a34
  have a35 := (fp10 _ (by omega)).trans a35
  have a36 := (fp10 _ (by omega)).trans a36
  have a37 := (fp10 _ (by omega)).trans a37
  have a38 := (fp10 _ (by omega)).trans a38
  have hfr : ∀ b, (b < 233) → hp10.2 b = h.2 b := fun b hb => (fp10 b (by omega)).trans (hfr b hb)
  have hh := cp10
  first | refine go_aload_n (i := 0) (pc' := 45) dX14_init_44 rfl rfl rfl ?_ | refine go_aloadX_n (i := 0) (pc' := 45) dX14_init_44 rfl rfl rfl ?_ | refine go_aload_nN (i := 0) (pc' := 45) dX14_init_44 rfl rfl rfl ?_
  refine go_bipush (v := 82) (pc' := 47) dX14_init_45 rfl (by decide) ?_
  refine go_newarrayK (t := 2) (N := 82) (pc' := 49) dX14_init_47 rfl rfl (by decide) wd_299 (by decide) (by decide) (by decide) hz (fun hp11 zp11 cp11 fp11 => ?_)
  have hz := zp11
  have hh := (fp11 _ (by omega)).trans hh
  have a34 := (fp11 _ (by omega)).trans a34
  have a35 := (fp11 _ (by omega)).trans a35
  have a36 := (fp11 _ (by omega)).trans a36
  have a37 := (fp11 _ (by omega)).trans a37
  have a38 := (fp11 _ (by omega)).trans a38
  have hfr : ∀ b, (b < 233) → hp11.2 b = h.2 b := fun b hb => (fp11 b (by omega)).trans (hfr b hb)
  have a39 : hp11.2 _ = some (.inl (2, 82, .inr (.inl (fun _ => 0)))) := cp11
  refine go_putfF (pc' := 52) dX14_init_49 rfl pf_LandBaseModel_117 (fun _ => rfl) hh (by decide) rfl rfl (fun hp12 zp12 cp12 fp12 => ?_)
  have hz := zp12.trans hz
  have a34 := (fp12 _ (by omega)).trans a34
  have a35 := (fp12 _ (by omega)).trans a35
  have a36 := (fp12 _ (by omega)).trans a36
  have a37 := (fp12 _ (by omega)).trans a37
  have a38 := (fp12 _ (by omega)).trans a38
  have a39 := (fp12 _ (by omega)).trans a39
  have hfr : ∀ b, (b < 233) → hp12.2 b = h.2 b := fun b hb => (fp12 b (by omega)).trans (hfr b hb)
  have hh := cp12
  first | refine go_aload_n (i := 0) (pc' := 53) dX14_init_52 rfl rfl rfl ?_ | refine go_aloadX_n (i := 0) (pc' := 53) dX14_init_52 rfl rfl rfl ?_ | refine go_aload_nN (i := 0) (pc' := 53) dX14_init_52 rfl rfl rfl ?_
  refine go_bipush (v := 8) (pc' := 55) dX14_init_53 rfl (by decide) ?_
  refine go_newarrayK (t := 3) (N := 8) (pc' := 57) dX14_init_55 rfl rfl (by decide) wd_150 (by decide) (by decide) (by decide) hz (fun hp13 zp13 cp13 fp13 => ?_)
  have hz := zp13
  have hh := (fp13 _ (by omega)).trans hh
  have a34 := (fp13 _ (by omega)).trans a34
  have a35 := (fp13 _ (by omega)).trans a35
  have a36 := (fp13 _ (by omega)).trans a36
  have a37 := (fp13 _ (by omega)).trans a37
  have a38 := (fp13 _ (by omega)).trans a38
  have a39 := (fp13 _ (by omega)).trans a39
  have hfr : ∀ b, (b < 233) → hp13.2 b = h.2 b := fun b hb => (fp13 b (by omega)).trans (hfr b hb)
  have a40 : hp13.2 _ = some (.inl (3, 8, .inl (fun _ => 0))) := cp13
  refine go_putfF (pc' := 60) dX14_init_57 rfl pf_LandBaseModel_156 (fun _ => rfl) hh (by decide) rfl rfl (fun hp14 zp14 cp14 fp14 => ?_)
  have hz := zp14.trans hz
  have a34 := (fp14 _ (by omega)).trans a34
  have a35 := (fp14 _ (by omega)).trans a35
  have a36 := (fp14 _ (by omega)).trans a36
  have a37 := (fp14 _ (by omega)).trans a37
  have a38 := (fp14 _ (by omega)).trans a38
  have a39 := (fp14 _ (by omega)).trans a39
  have a40 := (fp14 _ (by omega)).trans a40
  have hfr : ∀ b, (b < 233) → hp14.2 b = h.2 b := fun b hb => (fp14 b (by omega)).trans (hfr b hb)
  have hh := cp14
  first | refine go_aload_n (i := 0) (pc' := 61) dX14_init_60 rfl rfl rfl ?_ | refine go_aloadX_n (i := 0) (pc' := 61) dX14_init_60 rfl rfl rfl ?_ | refine go_aload_nN (i := 0) (pc' := 61) dX14_init_60 rfl rfl rfl ?_
  refine go_newK (pc' := 64) dX14_init_61 rfl nw_LandBaseModel_31 hz (fun hp15 zp15 cp15 fp15 => ?_)
  have hz := zp15
  have hh := (fp15 _ (by omega)).trans hh
  have a34 := (fp15 _ (by omega)).trans a34
  have a35 := (fp15 _ (by omega)).trans a35
  have a36 := (fp15 _ (by omega)).trans a36
  have a37 := (fp15 _ (by omega)).trans a37
  have a38 := (fp15 _ (by omega)).trans a38
  have a39 := (fp15 _ (by omega)).trans a39
  have a40 := (fp15 _ (by omega)).trans a40
  have hfr : ∀ b, (b < 233) → hp15.2 b = h.2 b := fun b hb => (fp15 b (by omega)).trans (hfr b hb)
  have s41 := cp15
  refine go_dup (pc' := 65) dX14_init_64 rfl rfl ?_
  have hz : hp15.1 = (242, 27064) := hz
  refine go_invIN (As := []) (pc' := 68) dX14_init_65 rfl cf_X14_init_462 rfl rfl (Nat.le_of_ble_eq_true rfl) (c_MShape_init (hz:=hz) (ha:=rfl) (hh:=s41)) (fun vp16 hp16 qp16 => ?_)
  obtain ⟨rfl, hz, s41, fp16⟩ := qp16
  have hh := (fp16 _ (by omega)).trans hh
  have a34 := (fp16 _ (by omega)).trans a34
  have a35 := (fp16 _ (by omega)).trans a35
  have a36 := (fp16 _ (by omega)).trans a36
  have a37 := (fp16 _ (by omega)).trans a37
  have a38 := (fp16 _ (by omega)).trans a38
  have a39 := (fp16 _ (by omega)).trans a39
  have a40 := (fp16 _ (by omega)).trans a40
  have hfr : ∀ b, (b < 233) → hp16.2 b = h.2 b := fun b hb => (fp16 b (by omega)).trans (hfr b hb)
  have hz : hp16.1 = (245, 27152) := hz
  have r41 : ∀ b, 241 ≤ b → b < 245 → hp16.2 b = hp16.2 b := fun _ _ _ => rfl
  refine go_putfF (pc' := 71) dX14_init_68 rfl pf_LandBaseModel_254 (fun _ => rfl) hh (by decide) rfl rfl (fun hp17 zp17 cp17 fp17 => ?_)
  have hz := zp17.trans hz
  have a34 := (fp17 _ (by omega)).trans a34
  have a35 := (fp17 _ (by omega)).trans a35
  have a36 := (fp17 _ (by omega)).trans a36
  have a37 := (fp17 _ (by omega)).trans a37
  have a38 := (fp17 _ (by omega)).trans a38
  have a39 := (fp17 _ (by omega)).trans a39
  have a40 := (fp17 _ (by omega)).trans a40
  have r41 : ∀ b, 241 ≤ b → b < 245 → hp17.2 b = hp16.2 b := fun b p q => (fp17 b (by omega)).trans (r41 b p q)
  have hfr : ∀ b, (b < 233) → hp17.2 b = h.2 b := fun b hb => (fp17 b (by omega)).trans (hfr b hb)
  have hh := cp17
  first | refine go_aload_n (i := 0) (pc' := 72) dX14_init_71 rfl rfl rfl ?_ | refine go_aloadX_n (i := 0) (pc' := 72) dX14_init_71 rfl rfl rfl ?_ | refine go_aload_nN (i := 0) (pc' := 72) dX14_init_71 rfl rfl rfl ?_
  refine go_newK (pc' := 75) dX14_init_72 rfl nw_LandBaseModel_31 hz (fun hp18 zp18 cp18 fp18 => ?_)
  have hz := zp18
  have hh := (fp18 _ (by omega)).trans hh
  have a34 := (fp18 _ (by omega)).trans a34
  have a35 := (fp18 _ (by omega)).trans a35
  have a36 := (fp18 _ (by omega)).trans a36
  have a37 := (fp18 _ (by omega)).trans a37
  have a38 := (fp18 _ (by omega)).trans a38
  have a39 := (fp18 _ (by omega)).trans a39
  have a40 := (fp18 _ (by omega)).trans a40
  have r41 : ∀ b, 241 ≤ b → b < 245 → hp18.2 b = hp16.2 b := fun b p q => (fp18 b (by omega)).trans (r41 b p q)
  have hfr : ∀ b, (b < 233) → hp18.2 b = h.2 b := fun b hb => (fp18 b (by omega)).trans (hfr b hb)
  have s45 := cp18
  refine go_dup (pc' := 76) dX14_init_75 rfl rfl ?_
  refine go_invIN (As := []) (pc' := 79) dX14_init_76 rfl cf_X14_init_462 rfl rfl (Nat.le_of_ble_eq_true rfl) (c_MShape_init (hz:=hz) (ha:=rfl) (hh:=s45)) (fun vp19 hp19 qp19 => ?_)
  obtain ⟨rfl, hz, s45, fp19⟩ := qp19
  have hh := (fp19 _ (by omega)).trans hh
  have a34 := (fp19 _ (by omega)).trans a34
  have a35 := (fp19 _ (by omega)).trans a35
  have a36 := (fp19 _ (by omega)).trans a36
  have a37 := (fp19 _ (by omega)).trans a37
  have a38 := (fp19 _ (by omega)).trans a38
  have a39 := (fp19 _ (by omega)).trans a39
  have a40 := (fp19 _ (by omega)).trans a40
  have r41 : ∀ b, 241 ≤ b → b < 245 → hp19.2 b = hp16.2 b := fun b p q => (fp19 b (by omega)).trans (r41 b p q)
  have hfr : ∀ b, (b < 233) → hp19.2 b = h.2 b := fun b hb => (fp19 b (by omega)).trans (hfr b hb)
  have hz : hp19.1 = (249, 27247) := hz
  have r45 : ∀ b, 245 ≤ b → b < 249 → hp19.2 b = hp19.2 b := fun _ _ _ => rfl
  refine go_putfF (pc' := 82) dX14_init_79 rfl pf_LandBaseModel_262 (fun _ => rfl) hh (by decide) rfl rfl (fun hp20 zp20 cp20 fp20 => ?_)
  have hz := zp20.trans hz
  have a34 := (fp20 _ (by omega)).trans a34
  have a35 := (fp20 _ (by omega)).trans a35
  have a36 := (fp20 _ (by omega)).trans a36
  have a37 := (fp20 _ (by omega)).trans a37
  have a38 := (fp20 _ (by omega)).trans a38
  have a39 := (fp20 _ (by omega)).trans a39
  have a40 := (fp20 _ (by omega)).trans a40
  have r41 : ∀ b, 241 ≤ b → b < 245 → hp20.2 b = hp16.2 b := fun b p q => (fp20 b (by omega)).trans (r41 b p q)
  have r45 : ∀ b, 245 ≤ b → b < 249 → hp20.2 b = hp19.2 b := fun b p q => (fp20 b (by omega)).trans (r45 b p q)
  have hfr : ∀ b, (b < 233) → hp20.2 b = h.2 b := fun b hb => (fp20 b (by omega)).trans (hfr b hb)
  have hh := cp20
  first | refine go_aload_n (i := 0) (pc' := 83) dX14_init_82 rfl rfl rfl ?_ | refine go_aloadX_n (i := 0) (pc' := 83) dX14_init_82 rfl rfl rfl ?_ | refine go_aload_nN (i := 0) (pc' := 83) dX14_init_82 rfl rfl rfl ?_
  refine go_bipush (v := 8) (pc' := 85) dX14_init_83 rfl (by decide) ?_
  refine go_newarrayK (t := 0) (N := 8) (pc' := 87) dX14_init_85 rfl rfl (by decide) wd_149 (by decide) (by decide) (by decide) hz (fun hp21 zp21 cp21 fp21 => ?_)
  have hz := zp21
  have hh := (fp21 _ (by omega)).trans hh
  have a34 := (fp21 _ (by omega)).trans a34
  have a35 := (fp21 _ (by omega)).trans a35
  have a36 := (fp21 _ (by omega)).trans a36
  have a37 := (fp21 _ (by omega)).trans a37
  have a38 := (fp21 _ (by omega)).trans a38
  have a39 := (fp21 _ (by omega)).trans a39
  have a40 := (fp21 _ (by omega)).trans a40
  have r41 : ∀ b, 241 ≤ b → b < 245 → hp21.2 b = hp16.2 b := fun b p q => (fp21 b (by omega)).trans (r41 b p q)
  have r45 : ∀ b, 245 ≤ b → b < 249 → hp21.2 b = hp19.2 b := fun b p q => (fp21 b (by omega)).trans (r45 b p q)
  have hfr : ∀ b, (b < 233) → hp21.2 b = h.2 b := fun b hb => (fp21 b (by omega)).trans (hfr b hb)
  have a49 : hp21.2 _ = some (.inl (0, 8, .inl (fun _ => 0))) := cp21
  refine go_putfF (pc' := 90) dX14_init_87 rfl pf_LandBaseModel_265 (fun _ => rfl) hh (by decide) rfl rfl (fun hp22 zp22 cp22 fp22 => ?_)
  have hz := zp22.trans hz
  have a34 := (fp22 _ (by omega)).trans a34
  have a35 := (fp22 _ (by omega)).trans a35
  have a36 := (fp22 _ (by omega)).trans a36
  have a37 := (fp22 _ (by omega)).trans a37
  have a38 := (fp22 _ (by omega)).trans a38
  have a39 := (fp22 _ (by omega)).trans a39
  have a40 := (fp22 _ (by omega)).trans a40
  have a49 := (fp22 _ (by omega)).trans a49
  have r41 : ∀ b, 241 ≤ b → b < 245 → hp22.2 b = hp16.2 b := fun b p q => (fp22 b (by omega)).trans (r41 b p q)
  have r45 : ∀ b, 245 ≤ b → b < 249 → hp22.2 b = hp19.2 b := fun b p q => (fp22 b (by omega)).trans (r45 b p q)
  have hfr : ∀ b, (b < 233) → hp22.2 b = h.2 b := fun b hb => (fp22 b (by omega)).trans (hfr b hb)
  have hh := cp22
  first | refine go_aload_n (i := 0) (pc' := 91) dX14_init_90 rfl rfl rfl ?_ | refine go_aloadX_n (i := 0) (pc' := 91) dX14_init_90 rfl rfl rfl ?_ | refine go_aload_nN (i := 0) (pc' := 91) dX14_init_90 rfl rfl rfl ?_
  refine go_newK (pc' := 94) dX14_init_91 rfl nw_LandBaseModel_289 hz (fun hp23 zp23 cp23 fp23 => ?_)
  have hz := zp23
  have hh := (fp23 _ (by omega)).trans hh
  have a34 := (fp23 _ (by omega)).trans a34
  have a35 := (fp23 _ (by omega)).trans a35
  have a36 := (fp23 _ (by omega)).trans a36
  have a37 := (fp23 _ (by omega)).trans a37
  have a38 := (fp23 _ (by omega)).trans a38
  have a39 := (fp23 _ (by omega)).trans a39
  have a40 := (fp23 _ (by omega)).trans a40
  have a49 := (fp23 _ (by omega)).trans a49
  have r41 : ∀ b, 241 ≤ b → b < 245 → hp23.2 b = hp16.2 b := fun b p q => (fp23 b (by omega)).trans (r41 b p q)
  have r45 : ∀ b, 245 ≤ b → b < 249 → hp23.2 b = hp19.2 b := fun b p q => (fp23 b (by omega)).trans (r45 b p q)
  have hfr : ∀ b, (b < 233) → hp23.2 b = h.2 b := fun b hb => (fp23 b (by omega)).trans (hfr b hb)
  have s50 := cp23
  refine go_dup (pc' := 95) dX14_init_94 rfl rfl ?_
  refine go_invIN (As := []) (pc' := 98) dX14_init_95 rfl cf_X14_init_463 rfl rfl (Nat.le_of_ble_eq_true rfl) (c_MDist_init (hz:=hz) (ha:=rfl) (hh:=s50)) (fun vp24 hp24 qp24 => ?_)
  obtain ⟨rfl, hz, s50, fp24⟩ := qp24
  have hh := (fp24 _ (by omega)).trans hh
  have a34 := (fp24 _ (by omega)).trans a34
  have a35 := (fp24 _ (by omega)).trans a35
  have a36 := (fp24 _ (by omega)).trans a36
  have a37 := (fp24 _ (by omega)).trans a37
  have a38 := (fp24 _ (by omega)).trans a38
  have a39 := (fp24 _ (by omega)).trans a39
  have a40 := (fp24 _ (by omega)).trans a40
  have a49 := (fp24 _ (by omega)).trans a49
  have r41 : ∀ b, 241 ≤ b → b < 245 → hp24.2 b = hp16.2 b := fun b p q => (fp24 b (by omega)).trans (r41 b p q)
  have r45 : ∀ b, 245 ≤ b → b < 249 → hp24.2 b = hp19.2 b := fun b p q => (fp24 b (by omega)).trans (r45 b p q)
  have hfr : ∀ b, (b < 233) → hp24.2 b = h.2 b := fun b hb => (fp24 b (by omega)).trans (hfr b hb)
  have hz : hp24.1 = (253, 27273) := hz
  have r50 : ∀ b, 250 ≤ b → b < 253 → hp24.2 b = hp24.2 b := fun _ _ _ => rfl
  refine go_putfF (pc' := 101) dX14_init_98 rfl pf_LandBaseModel_296 (fun _ => rfl) hh (by decide) rfl rfl (fun hp25 zp25 cp25 fp25 => ?_)
  have hz := zp25.trans hz
  have a34 := (fp25 _ (by omega)).trans a34
  have a35 := (fp25 _ (by omega)).trans a35
  have a36 := (fp25 _ (by omega)).trans a36
  have a37 := (fp25 _ (by omega)).trans a37
  have a38 := (fp25 _ (by omega)).trans a38
  have a39 := (fp25 _ (by omega)).trans a39
  have a40 := (fp25 _ (by omega)).trans a40
  have a49 := (fp25 _ (by omega)).trans a49
  have r41 : ∀ b, 241 ≤ b → b < 245 → hp25.2 b = hp16.2 b := fun b p q => (fp25 b (by omega)).trans (r41 b p q)
  have r45 : ∀ b, 245 ≤ b → b < 249 → hp25.2 b = hp19.2 b := fun b p q => (fp25 b (by omega)).trans (r45 b p q)
  have r50 : ∀ b, 250 ≤ b → b < 253 → hp25.2 b = hp24.2 b := fun b p q => (fp25 b (by omega)).trans (r50 b p q)
  have hfr : ∀ b, (b < 233) → hp25.2 b = h.2 b := fun b hb => (fp25 b (by omega)).trans (hfr b hb)
  have hh := cp25
  first | refine go_aload_n (i := 0) (pc' := 102) dX14_init_101 rfl rfl rfl ?_ | refine go_aloadX_n (i := 0) (pc' := 102) dX14_init_101 rfl rfl rfl ?_ | refine go_aload_nN (i := 0) (pc' := 102) dX14_init_101 rfl rfl rfl ?_
  refine go_newK (pc' := 105) dX14_init_102 rfl nw_LandBaseModel_289 hz (fun hp26 zp26 cp26 fp26 => ?_)
  have hz := zp26
  have hh := (fp26 _ (by omega)).trans hh
  have a34 := (fp26 _ (by omega)).trans a34
  have a35 := (fp26 _ (by omega)).trans a35
  have a36 := (fp26 _ (by omega)).trans a36
  have a37 := (fp26 _ (by omega)).trans a37
  have a38 := (fp26 _ (by omega)).trans a38
  have a39 := (fp26 _ (by omega)).trans a39
  have a40 := (fp26 _ (by omega)).trans a40
  have a49 := (fp26 _ (by omega)).trans a49
  have r41 : ∀ b, 241 ≤ b → b < 245 → hp26.2 b = hp16.2 b := fun b p q => (fp26 b (by omega)).trans (r41 b p q)
  have r45 : ∀ b, 245 ≤ b → b < 249 → hp26.2 b = hp19.2 b := fun b p q => (fp26 b (by omega)).trans (r45 b p q)
  have r50 : ∀ b, 250 ≤ b → b < 253 → hp26.2 b = hp24.2 b := fun b p q => (fp26 b (by omega)).trans (r50 b p q)
  have hfr : ∀ b, (b < 233) → hp26.2 b = h.2 b := fun b hb => (fp26 b (by omega)).trans (hfr b hb)
  have s53 := cp26
  refine go_dup (pc' := 106) dX14_init_105 rfl rfl ?_
  refine go_invIN (As := []) (pc' := 109) dX14_init_106 rfl cf_X14_init_463 rfl rfl (Nat.le_of_ble_eq_true rfl) (c_MDist_init (hz:=hz) (ha:=rfl) (hh:=s53)) (fun vp27 hp27 qp27 => ?_)
  obtain ⟨rfl, hz, s53, fp27⟩ := qp27
  have hh := (fp27 _ (by omega)).trans hh
  have a34 := (fp27 _ (by omega)).trans a34
  have a35 := (fp27 _ (by omega)).trans a35
  have a36 := (fp27 _ (by omega)).trans a36
  have a37 := (fp27 _ (by omega)).trans a37
  have a38 := (fp27 _ (by omega)).trans a38
  have a39 := (fp27 _ (by omega)).trans a39
  have a40 := (fp27 _ (by omega)).trans a40
  have a49 := (fp27 _ (by omega)).trans a49
  have r41 : ∀ b, 241 ≤ b → b < 245 → hp27.2 b = hp16.2 b := fun b p q => (fp27 b (by omega)).trans (r41 b p q)
  have r45 : ∀ b, 245 ≤ b → b < 249 → hp27.2 b = hp19.2 b := fun b p q => (fp27 b (by omega)).trans (r45 b p q)
  have r50 : ∀ b, 250 ≤ b → b < 253 → hp27.2 b = hp24.2 b := fun b p q => (fp27 b (by omega)).trans (r50 b p q)
  have hfr : ∀ b, (b < 233) → hp27.2 b = h.2 b := fun b hb => (fp27 b (by omega)).trans (hfr b hb)
  have hz : hp27.1 = (256, 27291) := hz
  have r53 : ∀ b, 253 ≤ b → b < 256 → hp27.2 b = hp27.2 b := fun _ _ _ => rfl
  refine go_putfF (pc' := 112) dX14_init_109 rfl pf_LandBaseModel_464 (fun _ => rfl) hh (by decide) rfl rfl (fun hp28 zp28 cp28 fp28 => ?_)
  have hz := zp28.trans hz
  have a34 := (fp28 _ (by omega)).trans a34
  have a35 := (fp28 _ (by omega)).trans a35
  have a36 := (fp28 _ (by omega)).trans a36
  have a37 := (fp28 _ (by omega)).trans a37
  have a38 := (fp28 _ (by omega)).trans a38
  have a39 := (fp28 _ (by omega)).trans a39
  have a40 := (fp28 _ (by omega)).trans a40
  have a49 := (fp28 _ (by omega)).trans a49
  have r41 : ∀ b, 241 ≤ b → b < 245 → hp28.2 b = hp16.2 b := fun b p q => (fp28 b (by omega)).trans (r41 b p q)
  have r45 : ∀ b, 245 ≤ b → b < 249 → hp28.2 b = hp19.2 b := fun b p q => (fp28 b (by omega)).trans (r45 b p q)
  have r50 : ∀ b, 250 ≤ b → b < 253 → hp28.2 b = hp24.2 b := fun b p q => (fp28 b (by omega)).trans (r50 b p q)
  have r53 : ∀ b, 253 ≤ b → b < 256 → hp28.2 b = hp27.2 b := fun b p q => (fp28 b (by omega)).trans (r53 b p q)
  have hfr : ∀ b, (b < 233) → hp28.2 b = h.2 b := fun b hb => (fp28 b (by omega)).trans (hfr b hb)
  have hh := cp28
  first | refine go_aload_n (i := 0) (pc' := 113) dX14_init_112 rfl rfl rfl ?_ | refine go_aloadX_n (i := 0) (pc' := 113) dX14_init_112 rfl rfl rfl ?_ | refine go_aload_nN (i := 0) (pc' := 113) dX14_init_112 rfl rfl rfl ?_
  refine go_newK (pc' := 116) dX14_init_113 rfl nw_LandBaseModel_289 hz (fun hp29 zp29 cp29 fp29 => ?_)
  have hz := zp29
  have hh := (fp29 _ (by omega)).trans hh
  have a34 := (fp29 _ (by omega)).trans a34
  have a35 := (fp29 _ (by omega)).trans a35
  have a36 := (fp29 _ (by omega)).trans a36
  have a37 := (fp29 _ (by omega)).trans a37
  have a38 := (fp29 _ (by omega)).trans a38
  have a39 := (fp29 _ (by omega)).trans a39
  have a40 := (fp29 _ (by omega)).trans a40
  have a49 := (fp29 _ (by omega)).trans a49
  have r41 : ∀ b, 241 ≤ b → b < 245 → hp29.2 b = hp16.2 b := fun b p q => (fp29 b (by omega)).trans (r41 b p q)
  have r45 : ∀ b, 245 ≤ b → b < 249 → hp29.2 b = hp19.2 b := fun b p q => (fp29 b (by omega)).trans (r45 b p q)
  have r50 : ∀ b, 250 ≤ b → b < 253 → hp29.2 b = hp24.2 b := fun b p q => (fp29 b (by omega)).trans (r50 b p q)
  have r53 : ∀ b, 253 ≤ b → b < 256 → hp29.2 b = hp27.2 b := fun b p q => (fp29 b (by omega)).trans (r53 b p q)
  have hfr : ∀ b, (b < 233) → hp29.2 b = h.2 b := fun b hb => (fp29 b (by omega)).trans (hfr b hb)
  have s56 := cp29
  refine go_dup (pc' := 117) dX14_init_116 rfl rfl ?_
  refine go_invIN (As := []) (pc' := 120) dX14_init_117 rfl cf_X14_init_463 rfl rfl (Nat.le_of_ble_eq_true rfl) (c_MDist_init (hz:=hz) (ha:=rfl) (hh:=s56)) (fun vp30 hp30 qp30 => ?_)
  obtain ⟨rfl, hz, s56, fp30⟩ := qp30
  have hh := (fp30 _ (by omega)).trans hh
  have a34 := (fp30 _ (by omega)).trans a34
  have a35 := (fp30 _ (by omega)).trans a35
  have a36 := (fp30 _ (by omega)).trans a36
  have a37 := (fp30 _ (by omega)).trans a37
  have a38 := (fp30 _ (by omega)).trans a38
  have a39 := (fp30 _ (by omega)).trans a39
  have a40 := (fp30 _ (by omega)).trans a40
  have a49 := (fp30 _ (by omega)).trans a49
  have r41 : ∀ b, 241 ≤ b → b < 245 → hp30.2 b = hp16.2 b := fun b p q => (fp30 b (by omega)).trans (r41 b p q)
  have r45 : ∀ b, 245 ≤ b → b < 249 → hp30.2 b = hp19.2 b := fun b p q => (fp30 b (by omega)).trans (r45 b p q)
  have r50 : ∀ b, 250 ≤ b → b < 253 → hp30.2 b = hp24.2 b := fun b p q => (fp30 b (by omega)).trans (r50 b p q)
  have r53 : ∀ b, 253 ≤ b → b < 256 → hp30.2 b = hp27.2 b := fun b p q => (fp30 b (by omega)).trans (r53 b p q)
  have hfr : ∀ b, (b < 233) → hp30.2 b = h.2 b := fun b hb => (fp30 b (by omega)).trans (hfr b hb)
  have hz : hp30.1 = (259, 27309) := hz
  have r56 : ∀ b, 256 ≤ b → b < 259 → hp30.2 b = hp30.2 b := fun _ _ _ => rfl
  refine go_putfF (pc' := 123) dX14_init_120 rfl pf_LandBaseModel_467 (fun _ => rfl) hh (by decide) rfl rfl (fun hp31 zp31 cp31 fp31 => ?_)
  have hz := zp31.trans hz
  have a34 := (fp31 _ (by omega)).trans a34
  have a35 := (fp31 _ (by omega)).trans a35
  have a36 := (fp31 _ (by omega)).trans a36
  have a37 := (fp31 _ (by omega)).trans a37
  have a38 := (fp31 _ (by omega)).trans a38
  have a39 := (fp31 _ (by omega)).trans a39
  have a40 := (fp31 _ (by omega)).trans a40
  have a49 := (fp31 _ (by omega)).trans a49
  have r41 : ∀ b, 241 ≤ b → b < 245 → hp31.2 b = hp16.2 b := fun b p q => (fp31 b (by omega)).trans (r41 b p q)
  have r45 : ∀ b, 245 ≤ b → b < 249 → hp31.2 b = hp19.2 b := fun b p q => (fp31 b (by omega)).trans (r45 b p q)
  have r50 : ∀ b, 250 ≤ b → b < 253 → hp31.2 b = hp24.2 b := fun b p q => (fp31 b (by omega)).trans (r50 b p q)
  have r53 : ∀ b, 253 ≤ b → b < 256 → hp31.2 b = hp27.2 b := fun b p q => (fp31 b (by omega)).trans (r53 b p q)
  have r56 : ∀ b, 256 ≤ b → b < 259 → hp31.2 b = hp30.2 b := fun b p q => (fp31 b (by omega)).trans (r56 b p q)
  have hfr : ∀ b, (b < 233) → hp31.2 b = h.2 b := fun b hb => (fp31 b (by omega)).trans (hfr b hb)
  have hh := cp31
  first | refine go_aload_n (i := 0) (pc' := 124) dX14_init_123 rfl rfl rfl ?_ | refine go_aloadX_n (i := 0) (pc' := 124) dX14_init_123 rfl rfl rfl ?_ | refine go_aload_nN (i := 0) (pc' := 124) dX14_init_123 rfl rfl rfl ?_
  refine go_newK (pc' := 127) dX14_init_124 rfl nw_LandBaseModel_355 hz (fun hp32 zp32 cp32 fp32 => ?_)
  have hz := zp32
  have hh := (fp32 _ (by omega)).trans hh
  have a34 := (fp32 _ (by omega)).trans a34
  have a35 := (fp32 _ (by omega)).trans a35
  have a36 := (fp32 _ (by omega)).trans a36
  have a37 := (fp32 _ (by omega)).trans a37
  have a38 := (fp32 _ (by omega)).trans a38
  have a39 := (fp32 _ (by omega)).trans a39
  have a40 := (fp32 _ (by omega)).trans a40
  have a49 := (fp32 _ (by omega)).trans a49
  have r41 : ∀ b, 241 ≤ b → b < 245 → hp32.2 b = hp16.2 b := fun b p q => (fp32 b (by omega)).trans (r41 b p q)
  have r45 : ∀ b, 245 ≤ b → b < 249 → hp32.2 b = hp19.2 b := fun b p q => (fp32 b (by omega)).trans (r45 b p q)
  have r50 : ∀ b, 250 ≤ b → b < 253 → hp32.2 b = hp24.2 b := fun b p q => (fp32 b (by omega)).trans (r50 b p q)
  have r53 : ∀ b, 253 ≤ b → b < 256 → hp32.2 b = hp27.2 b := fun b p q => (fp32 b (by omega)).trans (r53 b p q)
  have r56 : ∀ b, 256 ≤ b → b < 259 → hp32.2 b = hp30.2 b := fun b p q => (fp32 b (by omega)).trans (r56 b p q)
  have hfr : ∀ b, (b < 233) → hp32.2 b = h.2 b := fun b hb => (fp32 b (by omega)).trans (hfr b hb)
  have s59 := cp32
  refine go_dup (pc' := 128) dX14_init_127 rfl rfl ?_
  refine go_invI (As := []) (pc' := 131) dX14_init_128 rfl cf_X14_init_470 rfl rfl (Nat.le_of_ble_eq_true rfl) (c_MState_init (hz:=hz) (ha:=rfl) (hh:=s59)) (fun vp33 hp33 qp33 => ?_)
  obtain ⟨rfl, hz, s59, fp33⟩ := qp33
  have hh := (fp33 _ (by omega)).trans hh
  have a34 := (fp33 _ (by omega)).trans a34
  have a35 := (fp33 _ (by omega)).trans a35
  have a36 := (fp33 _ (by omega)).trans a36
  have a37 := (fp33 _ (by omega)).trans a37
  have a38 := (fp33 _ (by omega)).trans a38
  have a39 := (fp33 _ (by omega)).trans a39
  have a40 := (fp33 _ (by omega)).trans a40
  have a49 := (fp33 _ (by omega)).trans a49
  have r41 : ∀ b, 241 ≤ b → b < 245 → hp33.2 b = hp16.2 b := fun b p q => (fp33 b (by omega)).trans (r41 b p q)
  have r45 : ∀ b, 245 ≤ b → b < 249 → hp33.2 b = hp19.2 b := fun b p q => (fp33 b (by omega)).trans (r45 b p q)
  have r50 : ∀ b, 250 ≤ b → b < 253 → hp33.2 b = hp24.2 b := fun b p q => (fp33 b (by omega)).trans (r50 b p q)
  have r53 : ∀ b, 253 ≤ b → b < 256 → hp33.2 b = hp27.2 b := fun b p q => (fp33 b (by omega)).trans (r53 b p q)
  have r56 : ∀ b, 256 ≤ b → b < 259 → hp33.2 b = hp30.2 b := fun b p q => (fp33 b (by omega)).trans (r56 b p q)
  have hfr : ∀ b, (b < 233) → hp33.2 b = h.2 b := fun b hb => (fp33 b (by omega)).trans (hfr b hb)
  have hz : hp33.1 = (1061, 46511) := hz
  have r59 : ∀ b, 259 ≤ b → b < 1061 → hp33.2 b = hp33.2 b := fun _ _ _ => rfl
  refine go_putfF (pc' := 134) dX14_init_131 rfl pf_LandBaseModel_351 (fun _ => rfl) hh (by decide) rfl rfl (fun hp34 zp34 cp34 fp34 => ?_)
  have hz := zp34.trans hz
  have a34 := (fp34 _ (by omega)).trans a34
  have a35 := (fp34 _ (by omega)).trans a35
  have a36 := (fp34 _ (by omega)).trans a36
  have a37 := (fp34 _ (by omega)).trans a37
  have a38 := (fp34 _ (by omega)).trans a38
  have a39 := (fp34 _ (by omega)).trans a39
  have a40 := (fp34 _ (by omega)).trans a40
  have a49 := (fp34 _ (by omega)).trans a49
  have r41 : ∀ b, 241 ≤ b → b < 245 → hp34.2 b = hp16.2 b := fun b p q => (fp34 b (by omega)).trans (r41 b p q)
  have r45 : ∀ b, 245 ≤ b → b < 249 → hp34.2 b = hp19.2 b := fun b p q => (fp34 b (by omega)).trans (r45 b p q)
  have r50 : ∀ b, 250 ≤ b → b < 253 → hp34.2 b = hp24.2 b := fun b p q => (fp34 b (by omega)).trans (r50 b p q)
  have r53 : ∀ b, 253 ≤ b → b < 256 → hp34.2 b = hp27.2 b := fun b p q => (fp34 b (by omega)).trans (r53 b p q)
  have r56 : ∀ b, 256 ≤ b → b < 259 → hp34.2 b = hp30.2 b := fun b p q => (fp34 b (by omega)).trans (r56 b p q)
  have r59 : ∀ b, 259 ≤ b → b < 1061 → hp34.2 b = hp33.2 b := fun b p q => (fp34 b (by omega)).trans (r59 b p q)
  have hfr : ∀ b, (b < 233) → hp34.2 b = h.2 b := fun b hb => (fp34 b (by omega)).trans (hfr b hb)
  have hh := cp34
  first | refine go_aload_n (i := 0) (pc' := 135) dX14_init_134 rfl rfl rfl ?_ | refine go_aloadX_n (i := 0) (pc' := 135) dX14_init_134 rfl rfl rfl ?_ | refine go_aload_nN (i := 0) (pc' := 135) dX14_init_134 rfl rfl rfl ?_
  refine go_newK (pc' := 138) dX14_init_135 rfl nw_LandBaseModel_355 hz (fun hp35 zp35 cp35 fp35 => ?_)
  have hz := zp35
  have hh := (fp35 _ (by omega)).trans hh
  have a34 := (fp35 _ (by omega)).trans a34
  have a35 := (fp35 _ (by omega)).trans a35
  have a36 := (fp35 _ (by omega)).trans a36
  have a37 := (fp35 _ (by omega)).trans a37
  have a38 := (fp35 _ (by omega)).trans a38
  have a39 := (fp35 _ (by omega)).trans a39
  have a40 := (fp35 _ (by omega)).trans a40
  have a49 := (fp35 _ (by omega)).trans a49
  have r41 : ∀ b, 241 ≤ b → b < 245 → hp35.2 b = hp16.2 b := fun b p q => (fp35 b (by omega)).trans (r41 b p q)
  have r45 : ∀ b, 245 ≤ b → b < 249 → hp35.2 b = hp19.2 b := fun b p q => (fp35 b (by omega)).trans (r45 b p q)
  have r50 : ∀ b, 250 ≤ b → b < 253 → hp35.2 b = hp24.2 b := fun b p q => (fp35 b (by omega)).trans (r50 b p q)
  have r53 : ∀ b, 253 ≤ b → b < 256 → hp35.2 b = hp27.2 b := fun b p q => (fp35 b (by omega)).trans (r53 b p q)
  have r56 : ∀ b, 256 ≤ b → b < 259 → hp35.2 b = hp30.2 b := fun b p q => (fp35 b (by omega)).trans (r56 b p q)
  have r59 : ∀ b, 259 ≤ b → b < 1061 → hp35.2 b = hp33.2 b := fun b p q => (fp35 b (by omega)).trans (r59 b p q)
  have hfr : ∀ b, (b < 233) → hp35.2 b = h.2 b := fun b hb => (fp35 b (by omega)).trans (hfr b hb)
  have s61 := cp35
  refine go_dup (pc' := 139) dX14_init_138 rfl rfl ?_
  refine go_invI (As := []) (pc' := 142) dX14_init_139 rfl cf_X14_init_470 rfl rfl (Nat.le_of_ble_eq_true rfl) (c_MState_init (hz:=hz) (ha:=rfl) (hh:=s61)) (fun vp36 hp36 qp36 => ?_)
  obtain ⟨rfl, hz, s61, fp36⟩ := qp36
  have hh := (fp36 _ (by omega)).trans hh
  have a34 := (fp36 _ (by omega)).trans a34
  have a35 := (fp36 _ (by omega)).trans a35
  have a36 := (fp36 _ (by omega)).trans a36
  have a37 := (fp36 _ (by omega)).trans a37
  have a38 := (fp36 _ (by omega)).trans a38
  have a39 := (fp36 _ (by omega)).trans a39
  have a40 := (fp36 _ (by omega)).trans a40
  have a49 := (fp36 _ (by omega)).trans a49
  have r41 : ∀ b, 241 ≤ b → b < 245 → hp36.2 b = hp16.2 b := fun b p q => (fp36 b (by omega)).trans (r41 b p q)
  have r45 : ∀ b, 245 ≤ b → b < 249 → hp36.2 b = hp19.2 b := fun b p q => (fp36 b (by omega)).trans (r45 b p q)
  have r50 : ∀ b, 250 ≤ b → b < 253 → hp36.2 b = hp24.2 b := fun b p q => (fp36 b (by omega)).trans (r50 b p q)
  have r53 : ∀ b, 253 ≤ b → b < 256 → hp36.2 b = hp27.2 b := fun b p q => (fp36 b (by omega)).trans (r53 b p q)
  have r56 : ∀ b, 256 ≤ b → b < 259 → hp36.2 b = hp30.2 b := fun b p q => (fp36 b (by omega)).trans (r56 b p q)
  have r59 : ∀ b, 259 ≤ b → b < 1061 → hp36.2 b = hp33.2 b := fun b p q => (fp36 b (by omega)).trans (r59 b p q)
  have hfr : ∀ b, (b < 233) → hp36.2 b = h.2 b := fun b hb => (fp36 b (by omega)).trans (hfr b hb)
  have hz : hp36.1 = (1863, 65713) := hz
  have r61 : ∀ b, 1061 ≤ b → b < 1863 → hp36.2 b = hp36.2 b := fun _ _ _ => rfl
  refine go_putfF (pc' := 145) dX14_init_142 rfl pf_LandBaseModel_347 (fun _ => rfl) hh (by decide) rfl rfl (fun hp37 zp37 cp37 fp37 => ?_)
  have hz := zp37.trans hz
  have a34 := (fp37 _ (by omega)).trans a34
  have a35 := (fp37 _ (by omega)).trans a35
  have a36 := (fp37 _ (by omega)).trans a36
  have a37 := (fp37 _ (by omega)).trans a37
  have a38 := (fp37 _ (by omega)).trans a38
  have a39 := (fp37 _ (by omega)).trans a39
  have a40 := (fp37 _ (by omega)).trans a40
  have a49 := (fp37 _ (by omega)).trans a49
  have r41 : ∀ b, 241 ≤ b → b < 245 → hp37.2 b = hp16.2 b := fun b p q => (fp37 b (by omega)).trans (r41 b p q)
  have r45 : ∀ b, 245 ≤ b → b < 249 → hp37.2 b = hp19.2 b := fun b p q => (fp37 b (by omega)).trans (r45 b p q)
  have r50 : ∀ b, 250 ≤ b → b < 253 → hp37.2 b = hp24.2 b := fun b p q => (fp37 b (by omega)).trans (r50 b p q)
  have r53 : ∀ b, 253 ≤ b → b < 256 → hp37.2 b = hp27.2 b := fun b p q => (fp37 b (by omega)).trans (r53 b p q)
  have r56 : ∀ b, 256 ≤ b → b < 259 → hp37.2 b = hp30.2 b := fun b p q => (fp37 b (by omega)).trans (r56 b p q)
  have r59 : ∀ b, 259 ≤ b → b < 1061 → hp37.2 b = hp33.2 b := fun b p q => (fp37 b (by omega)).trans (r59 b p q)
  have r61 : ∀ b, 1061 ≤ b → b < 1863 → hp37.2 b = hp36.2 b := fun b p q => (fp37 b (by omega)).trans (r61 b p q)
  have hfr : ∀ b, (b < 233) → hp37.2 b = h.2 b := fun b hb => (fp37 b (by omega)).trans (hfr b hb)
  have hh := cp37
  first | refine go_aload_n (i := 0) (pc' := 146) dX14_init_145 rfl rfl rfl ?_ | refine go_aloadX_n (i := 0) (pc' := 146) dX14_init_145 rfl rfl rfl ?_ | refine go_aload_nN (i := 0) (pc' := 146) dX14_init_145 rfl rfl rfl ?_
  refine go_iconst (v := (-1)) (pc' := 147) dX14_init_146 rfl (by decide) ?_
  refine go_putfF (pc' := 150) dX14_init_147 rfl pf_LandBaseModel_323 (fun h => by cases h) hh (by decide) rfl rfl (fun hp38 zp38 cp38 fp38 => ?_)
  have hz := zp38.trans hz
  have a34 := (fp38 _ (by omega)).trans a34
  have a35 := (fp38 _ (by omega)).trans a35
  have a36 := (fp38 _ (by omega)).trans a36
  have a37 := (fp38 _ (by omega)).trans a37
  have a38 := (fp38 _ (by omega)).trans a38
  have a39 := (fp38 _ (by omega)).trans a39
  have a40 := (fp38 _ (by omega)).trans a40
  have a49 := (fp38 _ (by omega)).trans a49
  have r41 : ∀ b, 241 ≤ b → b < 245 → hp38.2 b = hp16.2 b := fun b p q => (fp38 b (by omega)).trans (r41 b p q)
  have r45 : ∀ b, 245 ≤ b → b < 249 → hp38.2 b = hp19.2 b := fun b p q => (fp38 b (by omega)).trans (r45 b p q)
  have r50 : ∀ b, 250 ≤ b → b < 253 → hp38.2 b = hp24.2 b := fun b p q => (fp38 b (by omega)).trans (r50 b p q)
  have r53 : ∀ b, 253 ≤ b → b < 256 → hp38.2 b = hp27.2 b := fun b p q => (fp38 b (by omega)).trans (r53 b p q)
  have r56 : ∀ b, 256 ≤ b → b < 259 → hp38.2 b = hp30.2 b := fun b p q => (fp38 b (by omega)).trans (r56 b p q)
  have r59 : ∀ b, 259 ≤ b → b < 1061 → hp38.2 b = hp33.2 b := fun b p q => (fp38 b (by omega)).trans (r59 b p q)
  have r61 : ∀ b, 1061 ≤ b → b < 1863 → hp38.2 b = hp36.2 b := fun b p q => (fp38 b (by omega)).trans (r61 b p q)
  have hfr : ∀ b, (b < 233) → hp38.2 b = h.2 b := fun b hb => (fp38 b (by omega)).trans (hfr b hb)
  have hh := cp38
  first | refine go_aload_n (i := 0) (pc' := 151) dX14_init_150 rfl rfl rfl ?_ | refine go_aloadX_n (i := 0) (pc' := 151) dX14_init_150 rfl rfl rfl ?_ | refine go_aload_nN (i := 0) (pc' := 151) dX14_init_150 rfl rfl rfl ?_
  refine go_sipush (v := 4000) (pc' := 154) dX14_init_151 rfl (by decide) ?_
  refine go_newarrayK (t := 0) (N := 4000) (pc' := 156) dX14_init_154 rfl rfl (by decide) wd_149 (by decide) (by decide) (by decide) hz (fun hp39 zp39 cp39 fp39 => ?_)
  have hz := zp39
  have hh := (fp39 _ (by omega)).trans hh
  have a34 := (fp39 _ (by omega)).trans a34
  have a35 := (fp39 _ (by omega)).trans a35
  have a36 := (fp39 _ (by omega)).trans a36
  have a37 := (fp39 _ (by omega)).trans a37
  have a38 := (fp39 _ (by omega)).trans a38
  have a39 := (fp39 _ (by omega)).trans a39
  have a40 := (fp39 _ (by omega)).trans a40
  have a49 := (fp39 _ (by omega)).trans a49
  have r41 : ∀ b, 241 ≤ b → b < 245 → hp39.2 b = hp16.2 b := fun b p q => (fp39 b (by omega)).trans (r41 b p q)
  have r45 : ∀ b, 245 ≤ b → b < 249 → hp39.2 b = hp19.2 b := fun b p q => (fp39 b (by omega)).trans (r45 b p q)
  have r50 : ∀ b, 250 ≤ b → b < 253 → hp39.2 b = hp24.2 b := fun b p q => (fp39 b (by omega)).trans (r50 b p q)
  have r53 : ∀ b, 253 ≤ b → b < 256 → hp39.2 b = hp27.2 b := fun b p q => (fp39 b (by omega)).trans (r53 b p q)
  have r56 : ∀ b, 256 ≤ b → b < 259 → hp39.2 b = hp30.2 b := fun b p q => (fp39 b (by omega)).trans (r56 b p q)
  have r59 : ∀ b, 259 ≤ b → b < 1061 → hp39.2 b = hp33.2 b := fun b p q => (fp39 b (by omega)).trans (r59 b p q)
  have r61 : ∀ b, 1061 ≤ b → b < 1863 → hp39.2 b = hp36.2 b := fun b p q => (fp39 b (by omega)).trans (r61 b p q)
  have hfr : ∀ b, (b < 233) → hp39.2 b = h.2 b := fun b hb => (fp39 b (by omega)).trans (hfr b hb)
  have a63 : hp39.2 _ = some (.inl (0, 4000, .inl (fun _ => 0))) := cp39
  refine go_putfF (pc' := 159) dX14_init_156 rfl pf_LandBaseModel_376 (fun _ => rfl) hh (by decide) rfl rfl (fun hp40 zp40 cp40 fp40 => ?_)
  have hz := zp40.trans hz
  have a34 := (fp40 _ (by omega)).trans a34
  have a35 := (fp40 _ (by omega)).trans a35
  have a36 := (fp40 _ (by omega)).trans a36
  have a37 := (fp40 _ (by omega)).trans a37
  have a38 := (fp40 _ (by omega)).trans a38
  have a39 := (fp40 _ (by omega)).trans a39
  have a40 := (fp40 _ (by omega)).trans a40
  have a49 := (fp40 _ (by omega)).trans a49
  have a63 := (fp40 _ (by omega)).trans a63
  have r41 : ∀ b, 241 ≤ b → b < 245 → hp40.2 b = hp16.2 b := fun b p q => (fp40 b (by omega)).trans (r41 b p q)
  have r45 : ∀ b, 245 ≤ b → b < 249 → hp40.2 b = hp19.2 b := fun b p q => (fp40 b (by omega)).trans (r45 b p q)
  have r50 : ∀ b, 250 ≤ b → b < 253 → hp40.2 b = hp24.2 b := fun b p q => (fp40 b (by omega)).trans (r50 b p q)
  have r53 : ∀ b, 253 ≤ b → b < 256 → hp40.2 b = hp27.2 b := fun b p q => (fp40 b (by omega)).trans (r53 b p q)
  have r56 : ∀ b, 256 ≤ b → b < 259 → hp40.2 b = hp30.2 b := fun b p q => (fp40 b (by omega)).trans (r56 b p q)
  have r59 : ∀ b, 259 ≤ b → b < 1061 → hp40.2 b = hp33.2 b := fun b p q => (fp40 b (by omega)).trans (r59 b p q)
  have r61 : ∀ b, 1061 ≤ b → b < 1863 → hp40.2 b = hp36.2 b := fun b p q => (fp40 b (by omega)).trans (r61 b p q)
  have hfr : ∀ b, (b < 233) → hp40.2 b = h.2 b := fun b hb => (fp40 b (by omega)).trans (hfr b hb)
  have hh := cp40
  first | refine go_aload_n (i := 0) (pc' := 160) dX14_init_159 rfl rfl rfl ?_ | refine go_aloadX_n (i := 0) (pc' := 160) dX14_init_159 rfl rfl rfl ?_ | refine go_aload_nN (i := 0) (pc' := 160) dX14_init_159 rfl rfl rfl ?_
  refine go_iconst (v := (-1)) (pc' := 161) dX14_init_160 rfl (by decide) ?_
  refine go_putfF (pc' := 164) dX14_init_161 rfl pf_LandBaseModel_370 (fun h => by cases h) hh (by decide) rfl rfl (fun hp41 zp41 cp41 fp41 => ?_)
  have hz := zp41.trans hz
  have a34 := (fp41 _ (by omega)).trans a34
  have a35 := (fp41 _ (by omega)).trans a35
  have a36 := (fp41 _ (by omega)).trans a36
  have a37 := (fp41 _ (by omega)).trans a37
  have a38 := (fp41 _ (by omega)).trans a38
  have a39 := (fp41 _ (by omega)).trans a39
  have a40 := (fp41 _ (by omega)).trans a40
  have a49 := (fp41 _ (by omega)).trans a49
  have a63 := (fp41 _ (by omega)).trans a63
  have r41 : ∀ b, 241 ≤ b → b < 245 → hp41.2 b = hp16.2 b := fun b p q => (fp41 b (by omega)).trans (r41 b p q)
  have r45 : ∀ b, 245 ≤ b → b < 249 → hp41.2 b = hp19.2 b := fun b p q => (fp41 b (by omega)).trans (r45 b p q)
  have r50 : ∀ b, 250 ≤ b → b < 253 → hp41.2 b = hp24.2 b := fun b p q => (fp41 b (by omega)).trans (r50 b p q)
  have r53 : ∀ b, 253 ≤ b → b < 256 → hp41.2 b = hp27.2 b := fun b p q => (fp41 b (by omega)).trans (r53 b p q)
  have r56 : ∀ b, 256 ≤ b → b < 259 → hp41.2 b = hp30.2 b := fun b p q => (fp41 b (by omega)).trans (r56 b p q)
  have r59 : ∀ b, 259 ≤ b → b < 1061 → hp41.2 b = hp33.2 b := fun b p q => (fp41 b (by omega)).trans (r59 b p q)
  have r61 : ∀ b, 1061 ≤ b → b < 1863 → hp41.2 b = hp36.2 b := fun b p q => (fp41 b (by omega)).trans (r61 b p q)
  have hfr : ∀ b, (b < 233) → hp41.2 b = h.2 b := fun b hb => (fp41 b (by omega)).trans (hfr b hb)
  have hh := cp41
  first | refine go_aload_n (i := 0) (pc' := 165) dX14_init_164 rfl rfl rfl ?_ | refine go_aloadX_n (i := 0) (pc' := 165) dX14_init_164 rfl rfl rfl ?_ | refine go_aload_nN (i := 0) (pc' := 165) dX14_init_164 rfl rfl rfl ?_
  refine go_sipush (v := 30000) (pc' := 168) dX14_init_165 rfl (by decide) ?_
  refine go_newarrayK (t := 0) (N := 30000) (pc' := 170) dX14_init_168 rfl rfl (by decide) wd_149 (by decide) (by decide) (by decide) hz (fun hp42 zp42 cp42 fp42 => ?_)
  have hz := zp42
  have hh := (fp42 _ (by omega)).trans hh
  have a34 := (fp42 _ (by omega)).trans a34
  have a35 := (fp42 _ (by omega)).trans a35
  have a36 := (fp42 _ (by omega)).trans a36
  have a37 := (fp42 _ (by omega)).trans a37
  have a38 := (fp42 _ (by omega)).trans a38
  have a39 := (fp42 _ (by omega)).trans a39
  have a40 := (fp42 _ (by omega)).trans a40
  have a49 := (fp42 _ (by omega)).trans a49
  have a63 := (fp42 _ (by omega)).trans a63
  have r41 : ∀ b, 241 ≤ b → b < 245 → hp42.2 b = hp16.2 b := fun b p q => (fp42 b (by omega)).trans (r41 b p q)
  have r45 : ∀ b, 245 ≤ b → b < 249 → hp42.2 b = hp19.2 b := fun b p q => (fp42 b (by omega)).trans (r45 b p q)
  have r50 : ∀ b, 250 ≤ b → b < 253 → hp42.2 b = hp24.2 b := fun b p q => (fp42 b (by omega)).trans (r50 b p q)
  have r53 : ∀ b, 253 ≤ b → b < 256 → hp42.2 b = hp27.2 b := fun b p q => (fp42 b (by omega)).trans (r53 b p q)
  have r56 : ∀ b, 256 ≤ b → b < 259 → hp42.2 b = hp30.2 b := fun b p q => (fp42 b (by omega)).trans (r56 b p q)
  have r59 : ∀ b, 259 ≤ b → b < 1061 → hp42.2 b = hp33.2 b := fun b p q => (fp42 b (by omega)).trans (r59 b p q)
  have r61 : ∀ b, 1061 ≤ b → b < 1863 → hp42.2 b = hp36.2 b := fun b p q => (fp42 b (by omega)).trans (r61 b p q)
  have hfr : ∀ b, (b < 233) → hp42.2 b = h.2 b := fun b hb => (fp42 b (by omega)).trans (hfr b hb)
  have a64 : hp42.2 _ = some (.inl (0, 30000, .inl (fun _ => 0))) := cp42
  refine go_putfF (pc' := 173) dX14_init_170 rfl pf_LandBaseModel_359 (fun _ => rfl) hh (by decide) rfl rfl (fun hp43 zp43 cp43 fp43 => ?_)
  have hz := zp43.trans hz
  have a34 := (fp43 _ (by omega)).trans a34
  have a35 := (fp43 _ (by omega)).trans a35
  have a36 := (fp43 _ (by omega)).trans a36
  have a37 := (fp43 _ (by omega)).trans a37
  have a38 := (fp43 _ (by omega)).trans a38
  have a39 := (fp43 _ (by omega)).trans a39
  have a40 := (fp43 _ (by omega)).trans a40
  have a49 := (fp43 _ (by omega)).trans a49
  have a63 := (fp43 _ (by omega)).trans a63
  have a64 := (fp43 _ (by omega)).trans a64
  have r41 : ∀ b, 241 ≤ b → b < 245 → hp43.2 b = hp16.2 b := fun b p q => (fp43 b (by omega)).trans (r41 b p q)
  have r45 : ∀ b, 245 ≤ b → b < 249 → hp43.2 b = hp19.2 b := fun b p q => (fp43 b (by omega)).trans (r45 b p q)
  have r50 : ∀ b, 250 ≤ b → b < 253 → hp43.2 b = hp24.2 b := fun b p q => (fp43 b (by omega)).trans (r50 b p q)
  have r53 : ∀ b, 253 ≤ b → b < 256 → hp43.2 b = hp27.2 b := fun b p q => (fp43 b (by omega)).trans (r53 b p q)
  have r56 : ∀ b, 256 ≤ b → b < 259 → hp43.2 b = hp30.2 b := fun b p q => (fp43 b (by omega)).trans (r56 b p q)
  have r59 : ∀ b, 259 ≤ b → b < 1061 → hp43.2 b = hp33.2 b := fun b p q => (fp43 b (by omega)).trans (r59 b p q)
  have r61 : ∀ b, 1061 ≤ b → b < 1863 → hp43.2 b = hp36.2 b := fun b p q => (fp43 b (by omega)).trans (r61 b p q)
  have hfr : ∀ b, (b < 233) → hp43.2 b = h.2 b := fun b hb => (fp43 b (by omega)).trans (hfr b hb)
  have hh := cp43
  first | refine go_aload_n (i := 0) (pc' := 174) dX14_init_173 rfl rfl rfl ?_ | refine go_aloadX_n (i := 0) (pc' := 174) dX14_init_173 rfl rfl rfl ?_ | refine go_aload_nN (i := 0) (pc' := 174) dX14_init_173 rfl rfl rfl ?_
  refine go_newK (pc' := 177) dX14_init_174 rfl nw_LandBaseModel_31 hz (fun hp44 zp44 cp44 fp44 => ?_)
  have hz := zp44
  have hh := (fp44 _ (by omega)).trans hh
  have a34 := (fp44 _ (by omega)).trans a34
  have a35 := (fp44 _ (by omega)).trans a35
  have a36 := (fp44 _ (by omega)).trans a36
  have a37 := (fp44 _ (by omega)).trans a37
  have a38 := (fp44 _ (by omega)).trans a38
  have a39 := (fp44 _ (by omega)).trans a39
  have a40 := (fp44 _ (by omega)).trans a40
  have a49 := (fp44 _ (by omega)).trans a49
  have a63 := (fp44 _ (by omega)).trans a63
  have a64 := (fp44 _ (by omega)).trans a64
  have r41 : ∀ b, 241 ≤ b → b < 245 → hp44.2 b = hp16.2 b := fun b p q => (fp44 b (by omega)).trans (r41 b p q)
  have r45 : ∀ b, 245 ≤ b → b < 249 → hp44.2 b = hp19.2 b := fun b p q => (fp44 b (by omega)).trans (r45 b p q)
  have r50 : ∀ b, 250 ≤ b → b < 253 → hp44.2 b = hp24.2 b := fun b p q => (fp44 b (by omega)).trans (r50 b p q)
  have r53 : ∀ b, 253 ≤ b → b < 256 → hp44.2 b = hp27.2 b := fun b p q => (fp44 b (by omega)).trans (r53 b p q)
  have r56 : ∀ b, 256 ≤ b → b < 259 → hp44.2 b = hp30.2 b := fun b p q => (fp44 b (by omega)).trans (r56 b p q)
  have r59 : ∀ b, 259 ≤ b → b < 1061 → hp44.2 b = hp33.2 b := fun b p q => (fp44 b (by omega)).trans (r59 b p q)
  have r61 : ∀ b, 1061 ≤ b → b < 1863 → hp44.2 b = hp36.2 b := fun b p q => (fp44 b (by omega)).trans (r61 b p q)
  have hfr : ∀ b, (b < 233) → hp44.2 b = h.2 b := fun b hb => (fp44 b (by omega)).trans (hfr b hb)
  have s65 := cp44
  refine go_dup (pc' := 178) dX14_init_177 rfl rfl ?_
  have hz : hp44.1 = (1866, 99720) := hz
  refine go_invIN (As := []) (pc' := 181) dX14_init_178 rfl cf_X14_init_462 rfl rfl (Nat.le_of_ble_eq_true rfl) (c_MShape_init (hz:=hz) (ha:=rfl) (hh:=s65)) (fun vp45 hp45 qp45 => ?_)
  obtain ⟨rfl, hz, s65, fp45⟩ := qp45
  have hh := (fp45 _ (by omega)).trans hh
  have a34 := (fp45 _ (by omega)).trans a34
  have a35 := (fp45 _ (by omega)).trans a35
  have a36 := (fp45 _ (by omega)).trans a36
  have a37 := (fp45 _ (by omega)).trans a37
  have a38 := (fp45 _ (by omega)).trans a38
  have a39 := (fp45 _ (by omega)).trans a39
  have a40 := (fp45 _ (by omega)).trans a40
  have a49 := (fp45 _ (by omega)).trans a49
  have a63 := (fp45 _ (by omega)).trans a63
  have a64 := (fp45 _ (by omega)).trans a64
  have r41 : ∀ b, 241 ≤ b → b < 245 → hp45.2 b = hp16.2 b := fun b p q => (fp45 b (by omega)).trans (r41 b p q)
  have r45 : ∀ b, 245 ≤ b → b < 249 → hp45.2 b = hp19.2 b := fun b p q => (fp45 b (by omega)).trans (r45 b p q)
  have r50 : ∀ b, 250 ≤ b → b < 253 → hp45.2 b = hp24.2 b := fun b p q => (fp45 b (by omega)).trans (r50 b p q)
  have r53 : ∀ b, 253 ≤ b → b < 256 → hp45.2 b = hp27.2 b := fun b p q => (fp45 b (by omega)).trans (r53 b p q)
  have r56 : ∀ b, 256 ≤ b → b < 259 → hp45.2 b = hp30.2 b := fun b p q => (fp45 b (by omega)).trans (r56 b p q)
  have r59 : ∀ b, 259 ≤ b → b < 1061 → hp45.2 b = hp33.2 b := fun b p q => (fp45 b (by omega)).trans (r59 b p q)
  have r61 : ∀ b, 1061 ≤ b → b < 1863 → hp45.2 b = hp36.2 b := fun b p q => (fp45 b (by omega)).trans (r61 b p q)
  have hfr : ∀ b, (b < 233) → hp45.2 b = h.2 b := fun b hb => (fp45 b (by omega)).trans (hfr b hb)
  have hz : hp45.1 = (1869, 99808) := hz
  have r65 : ∀ b, 1865 ≤ b → b < 1869 → hp45.2 b = hp45.2 b := fun _ _ _ => rfl
  refine go_putfF (pc' := 184) dX14_init_181 rfl pf_LandBaseModel_432 (fun _ => rfl) hh (by decide) rfl rfl (fun hp46 zp46 cp46 fp46 => ?_)
  have hz := zp46.trans hz
  have a34 := (fp46 _ (by omega)).trans a34
  have a35 := (fp46 _ (by omega)).trans a35
  have a36 := (fp46 _ (by omega)).trans a36
  have a37 := (fp46 _ (by omega)).trans a37
  have a38 := (fp46 _ (by omega)).trans a38
  have a39 := (fp46 _ (by omega)).trans a39
  have a40 := (fp46 _ (by omega)).trans a40
  have a49 := (fp46 _ (by omega)).trans a49
  have a63 := (fp46 _ (by omega)).trans a63
  have a64 := (fp46 _ (by omega)).trans a64
  have r41 : ∀ b, 241 ≤ b → b < 245 → hp46.2 b = hp16.2 b := fun b p q => (fp46 b (by omega)).trans (r41 b p q)
  have r45 : ∀ b, 245 ≤ b → b < 249 → hp46.2 b = hp19.2 b := fun b p q => (fp46 b (by omega)).trans (r45 b p q)
  have r50 : ∀ b, 250 ≤ b → b < 253 → hp46.2 b = hp24.2 b := fun b p q => (fp46 b (by omega)).trans (r50 b p q)
  have r53 : ∀ b, 253 ≤ b → b < 256 → hp46.2 b = hp27.2 b := fun b p q => (fp46 b (by omega)).trans (r53 b p q)
  have r56 : ∀ b, 256 ≤ b → b < 259 → hp46.2 b = hp30.2 b := fun b p q => (fp46 b (by omega)).trans (r56 b p q)
  have r59 : ∀ b, 259 ≤ b → b < 1061 → hp46.2 b = hp33.2 b := fun b p q => (fp46 b (by omega)).trans (r59 b p q)
  have r61 : ∀ b, 1061 ≤ b → b < 1863 → hp46.2 b = hp36.2 b := fun b p q => (fp46 b (by omega)).trans (r61 b p q)
  have r65 : ∀ b, 1865 ≤ b → b < 1869 → hp46.2 b = hp45.2 b := fun b p q => (fp46 b (by omega)).trans (r65 b p q)
  have hfr : ∀ b, (b < 233) → hp46.2 b = h.2 b := fun b hb => (fp46 b (by omega)).trans (hfr b hb)
  have hh := cp46
  first | refine go_aload_n (i := 0) (pc' := 185) dX14_init_184 rfl rfl rfl ?_ | refine go_aloadX_n (i := 0) (pc' := 185) dX14_init_184 rfl rfl rfl ?_ | refine go_aload_nN (i := 0) (pc' := 185) dX14_init_184 rfl rfl rfl ?_
  refine go_bipush (v := 8) (pc' := 187) dX14_init_185 rfl (by decide) ?_
  refine go_newarrayK (t := 0) (N := 8) (pc' := 189) dX14_init_187 rfl rfl (by decide) wd_149 (by decide) (by decide) (by decide) hz (fun hp47 zp47 cp47 fp47 => ?_)
  have hz := zp47
  have hh := (fp47 _ (by omega)).trans hh
  have a34 := (fp47 _ (by omega)).trans a34
  have a35 := (fp47 _ (by omega)).trans a35
  have a36 := (fp47 _ (by omega)).trans a36
  have a37 := (fp47 _ (by omega)).trans a37
  have a38 := (fp47 _ (by omega)).trans a38
  have a39 := (fp47 _ (by omega)).trans a39
  have a40 := (fp47 _ (by omega)).trans a40
  have a49 := (fp47 _ (by omega)).trans a49
  have a63 := (fp47 _ (by omega)).trans a63
  have a64 := (fp47 _ (by omega)).trans a64
  have r41 : ∀ b, 241 ≤ b → b < 245 → hp47.2 b = hp16.2 b := fun b p q => (fp47 b (by omega)).trans (r41 b p q)
  have r45 : ∀ b, 245 ≤ b → b < 249 → hp47.2 b = hp19.2 b := fun b p q => (fp47 b (by omega)).trans (r45 b p q)
  have r50 : ∀ b, 250 ≤ b → b < 253 → hp47.2 b = hp24.2 b := fun b p q => (fp47 b (by omega)).trans (r50 b p q)
  have r53 : ∀ b, 253 ≤ b → b < 256 → hp47.2 b = hp27.2 b := fun b p q => (fp47 b (by omega)).trans (r53 b p q)
  have r56 : ∀ b, 256 ≤ b → b < 259 → hp47.2 b = hp30.2 b := fun b p q => (fp47 b (by omega)).trans (r56 b p q)
  have r59 : ∀ b, 259 ≤ b → b < 1061 → hp47.2 b = hp33.2 b := fun b p q => (fp47 b (by omega)).trans (r59 b p q)
  have r61 : ∀ b, 1061 ≤ b → b < 1863 → hp47.2 b = hp36.2 b := fun b p q => (fp47 b (by omega)).trans (r61 b p q)
  have r65 : ∀ b, 1865 ≤ b → b < 1869 → hp47.2 b = hp45.2 b := fun b p q => (fp47 b (by omega)).trans (r65 b p q)
  have hfr : ∀ b, (b < 233) → hp47.2 b = h.2 b := fun b hb => (fp47 b (by omega)).trans (hfr b hb)
  have a69 : hp47.2 _ = some (.inl (0, 8, .inl (fun _ => 0))) := cp47
  refine go_putfF (pc' := 192) dX14_init_189 rfl pf_LandBaseModel_471 (fun _ => rfl) hh (by decide) rfl rfl (fun hp48 zp48 cp48 fp48 => ?_)
  have hz := zp48.trans hz
  have a34 := (fp48 _ (by omega)).trans a34
  have a35 := (fp48 _ (by omega)).trans a35
  have a36 := (fp48 _ (by omega)).trans a36
  have a37 := (fp48 _ (by omega)).trans a37
  have a38 := (fp48 _ (by omega)).trans a38
  have a39 := (fp48 _ (by omega)).trans a39
  have a40 := (fp48 _ (by omega)).trans a40
  have a49 := (fp48 _ (by omega)).trans a49
  have a63 := (fp48 _ (by omega)).trans a63
  have a64 := (fp48 _ (by omega)).trans a64
  have a69 := (fp48 _ (by omega)).trans a69
  have r41 : ∀ b, 241 ≤ b → b < 245 → hp48.2 b = hp16.2 b := fun b p q => (fp48 b (by omega)).trans (r41 b p q)
  have r45 : ∀ b, 245 ≤ b → b < 249 → hp48.2 b = hp19.2 b := fun b p q => (fp48 b (by omega)).trans (r45 b p q)
  have r50 : ∀ b, 250 ≤ b → b < 253 → hp48.2 b = hp24.2 b := fun b p q => (fp48 b (by omega)).trans (r50 b p q)
  have r53 : ∀ b, 253 ≤ b → b < 256 → hp48.2 b = hp27.2 b := fun b p q => (fp48 b (by omega)).trans (r53 b p q)
  have r56 : ∀ b, 256 ≤ b → b < 259 → hp48.2 b = hp30.2 b := fun b p q => (fp48 b (by omega)).trans (r56 b p q)
  have r59 : ∀ b, 259 ≤ b → b < 1061 → hp48.2 b = hp33.2 b := fun b p q => (fp48 b (by omega)).trans (r59 b p q)
  have r61 : ∀ b, 1061 ≤ b → b < 1863 → hp48.2 b = hp36.2 b := fun b p q => (fp48 b (by omega)).trans (r61 b p q)
  have r65 : ∀ b, 1865 ≤ b → b < 1869 → hp48.2 b = hp45.2 b := fun b p q => (fp48 b (by omega)).trans (r65 b p q)
  have hfr : ∀ b, (b < 233) → hp48.2 b = h.2 b := fun b hb => (fp48 b (by omega)).trans (hfr b hb)
  have hh := cp48
  first | refine go_aload_n (i := 0) (pc' := 193) dX14_init_192 rfl rfl rfl ?_ | refine go_aloadX_n (i := 0) (pc' := 193) dX14_init_192 rfl rfl rfl ?_ | refine go_aload_nN (i := 0) (pc' := 193) dX14_init_192 rfl rfl rfl ?_
  refine go_newK (pc' := 196) dX14_init_193 rfl nw_LandBaseModel_31 hz (fun hp49 zp49 cp49 fp49 => ?_)
  have hz := zp49
  have hh := (fp49 _ (by omega)).trans hh
  have a34 := (fp49 _ (by omega)).trans a34
  have a35 := (fp49 _ (by omega)).trans a35
  have a36 := (fp49 _ (by omega)).trans a36
  have a37 := (fp49 _ (by omega)).trans a37
  have a38 := (fp49 _ (by omega)).trans a38
  have a39 := (fp49 _ (by omega)).trans a39
  have a40 := (fp49 _ (by omega)).trans a40
  have a49 := (fp49 _ (by omega)).trans a49
  have a63 := (fp49 _ (by omega)).trans a63
  have a64 := (fp49 _ (by omega)).trans a64
  have a69 := (fp49 _ (by omega)).trans a69
  have r41 : ∀ b, 241 ≤ b → b < 245 → hp49.2 b = hp16.2 b := fun b p q => (fp49 b (by omega)).trans (r41 b p q)
  have r45 : ∀ b, 245 ≤ b → b < 249 → hp49.2 b = hp19.2 b := fun b p q => (fp49 b (by omega)).trans (r45 b p q)
  have r50 : ∀ b, 250 ≤ b → b < 253 → hp49.2 b = hp24.2 b := fun b p q => (fp49 b (by omega)).trans (r50 b p q)
  have r53 : ∀ b, 253 ≤ b → b < 256 → hp49.2 b = hp27.2 b := fun b p q => (fp49 b (by omega)).trans (r53 b p q)
  have r56 : ∀ b, 256 ≤ b → b < 259 → hp49.2 b = hp30.2 b := fun b p q => (fp49 b (by omega)).trans (r56 b p q)
  have r59 : ∀ b, 259 ≤ b → b < 1061 → hp49.2 b = hp33.2 b := fun b p q => (fp49 b (by omega)).trans (r59 b p q)
  have r61 : ∀ b, 1061 ≤ b → b < 1863 → hp49.2 b = hp36.2 b := fun b p q => (fp49 b (by omega)).trans (r61 b p q)
  have r65 : ∀ b, 1865 ≤ b → b < 1869 → hp49.2 b = hp45.2 b := fun b p q => (fp49 b (by omega)).trans (r65 b p q)
  have hfr : ∀ b, (b < 233) → hp49.2 b = h.2 b := fun b hb => (fp49 b (by omega)).trans (hfr b hb)
  have s70 := cp49
  refine go_dup (pc' := 197) dX14_init_196 rfl rfl ?_
  refine go_invIN (As := []) (pc' := 200) dX14_init_197 rfl cf_X14_init_462 rfl rfl (Nat.le_of_ble_eq_true rfl) (c_MShape_init (hz:=hz) (ha:=rfl) (hh:=s70)) (fun vp50 hp50 qp50 => ?_)
  obtain ⟨rfl, hz, s70, fp50⟩ := qp50
  have hh := (fp50 _ (by omega)).trans hh
  have a34 := (fp50 _ (by omega)).trans a34
  have a35 := (fp50 _ (by omega)).trans a35
  have a36 := (fp50 _ (by omega)).trans a36
  have a37 := (fp50 _ (by omega)).trans a37
  have a38 := (fp50 _ (by omega)).trans a38
  have a39 := (fp50 _ (by omega)).trans a39
  have a40 := (fp50 _ (by omega)).trans a40
  have a49 := (fp50 _ (by omega)).trans a49
  have a63 := (fp50 _ (by omega)).trans a63
  have a64 := (fp50 _ (by omega)).trans a64
  have a69 := (fp50 _ (by omega)).trans a69
  have r41 : ∀ b, 241 ≤ b → b < 245 → hp50.2 b = hp16.2 b := fun b p q => (fp50 b (by omega)).trans (r41 b p q)
  have r45 : ∀ b, 245 ≤ b → b < 249 → hp50.2 b = hp19.2 b := fun b p q => (fp50 b (by omega)).trans (r45 b p q)
  have r50 : ∀ b, 250 ≤ b → b < 253 → hp50.2 b = hp24.2 b := fun b p q => (fp50 b (by omega)).trans (r50 b p q)
  have r53 : ∀ b, 253 ≤ b → b < 256 → hp50.2 b = hp27.2 b := fun b p q => (fp50 b (by omega)).trans (r53 b p q)
  have r56 : ∀ b, 256 ≤ b → b < 259 → hp50.2 b = hp30.2 b := fun b p q => (fp50 b (by omega)).trans (r56 b p q)
  have r59 : ∀ b, 259 ≤ b → b < 1061 → hp50.2 b = hp33.2 b := fun b p q => (fp50 b (by omega)).trans (r59 b p q)
  have r61 : ∀ b, 1061 ≤ b → b < 1863 → hp50.2 b = hp36.2 b := fun b p q => (fp50 b (by omega)).trans (r61 b p q)
  have r65 : ∀ b, 1865 ≤ b → b < 1869 → hp50.2 b = hp45.2 b := fun b p q => (fp50 b (by omega)).trans (r65 b p q)
  have hfr : ∀ b, (b < 233) → hp50.2 b = h.2 b := fun b hb => (fp50 b (by omega)).trans (hfr b hb)
  have hz : hp50.1 = (1874, 99911) := hz
  have r70 : ∀ b, 1870 ≤ b → b < 1874 → hp50.2 b = hp50.2 b := fun _ _ _ => rfl
  refine go_putfF (pc' := 203) dX14_init_200 rfl pf_LandBaseModel_474 (fun _ => rfl) hh (by decide) rfl rfl (fun hp51 zp51 cp51 fp51 => ?_)
  have hz := zp51.trans hz
  have a34 := (fp51 _ (by omega)).trans a34
  have a35 := (fp51 _ (by omega)).trans a35
  have a36 := (fp51 _ (by omega)).trans a36
  have a37 := (fp51 _ (by omega)).trans a37
  have a38 := (fp51 _ (by omega)).trans a38
  have a39 := (fp51 _ (by omega)).trans a39
  have a40 := (fp51 _ (by omega)).trans a40
  have a49 := (fp51 _ (by omega)).trans a49
  have a63 := (fp51 _ (by omega)).trans a63
  have a64 := (fp51 _ (by omega)).trans a64
  have a69 := (fp51 _ (by omega)).trans a69
  have r41 : ∀ b, 241 ≤ b → b < 245 → hp51.2 b = hp16.2 b := fun b p q => (fp51 b (by omega)).trans (r41 b p q)
  have r45 : ∀ b, 245 ≤ b → b < 249 → hp51.2 b = hp19.2 b := fun b p q => (fp51 b (by omega)).trans (r45 b p q)
  have r50 : ∀ b, 250 ≤ b → b < 253 → hp51.2 b = hp24.2 b := fun b p q => (fp51 b (by omega)).trans (r50 b p q)
  have r53 : ∀ b, 253 ≤ b → b < 256 → hp51.2 b = hp27.2 b := fun b p q => (fp51 b (by omega)).trans (r53 b p q)
  have r56 : ∀ b, 256 ≤ b → b < 259 → hp51.2 b = hp30.2 b := fun b p q => (fp51 b (by omega)).trans (r56 b p q)
  have r59 : ∀ b, 259 ≤ b → b < 1061 → hp51.2 b = hp33.2 b := fun b p q => (fp51 b (by omega)).trans (r59 b p q)
  have r61 : ∀ b, 1061 ≤ b → b < 1863 → hp51.2 b = hp36.2 b := fun b p q => (fp51 b (by omega)).trans (r61 b p q)
  have r65 : ∀ b, 1865 ≤ b → b < 1869 → hp51.2 b = hp45.2 b := fun b p q => (fp51 b (by omega)).trans (r65 b p q)
  have r70 : ∀ b, 1870 ≤ b → b < 1874 → hp51.2 b = hp50.2 b := fun b p q => (fp51 b (by omega)).trans (r70 b p q)
  have hfr : ∀ b, (b < 233) → hp51.2 b = h.2 b := fun b hb => (fp51 b (by omega)).trans (hfr b hb)
  have hh := cp51
  first | refine go_aload_n (i := 0) (pc' := 204) dX14_init_203 rfl rfl rfl ?_ | refine go_aloadX_n (i := 0) (pc' := 204) dX14_init_203 rfl rfl rfl ?_ | refine go_aload_nN (i := 0) (pc' := 204) dX14_init_203 rfl rfl rfl ?_
  refine go_sipush (v := 200) (pc' := 207) dX14_init_204 rfl (by decide) ?_
  refine go_anewarrayK (t := 7) (N := 200) (pc' := 210) dX14_init_207 rfl (by decide) rfl wd_1022 (by decide) (by decide) (by decide) hz (fun hp52 zp52 cp52 fp52 => ?_)
  have hz := zp52
  have hh := (fp52 _ (by omega)).trans hh
  have a34 := (fp52 _ (by omega)).trans a34
  have a35 := (fp52 _ (by omega)).trans a35
  have a36 := (fp52 _ (by omega)).trans a36
  have a37 := (fp52 _ (by omega)).trans a37
  have a38 := (fp52 _ (by omega)).trans a38
  have a39 := (fp52 _ (by omega)).trans a39
  have a40 := (fp52 _ (by omega)).trans a40
  have a49 := (fp52 _ (by omega)).trans a49
  have a63 := (fp52 _ (by omega)).trans a63
  have a64 := (fp52 _ (by omega)).trans a64
  have a69 := (fp52 _ (by omega)).trans a69
  have r41 : ∀ b, 241 ≤ b → b < 245 → hp52.2 b = hp16.2 b := fun b p q => (fp52 b (by omega)).trans (r41 b p q)
  have r45 : ∀ b, 245 ≤ b → b < 249 → hp52.2 b = hp19.2 b := fun b p q => (fp52 b (by omega)).trans (r45 b p q)
  have r50 : ∀ b, 250 ≤ b → b < 253 → hp52.2 b = hp24.2 b := fun b p q => (fp52 b (by omega)).trans (r50 b p q)
  have r53 : ∀ b, 253 ≤ b → b < 256 → hp52.2 b = hp27.2 b := fun b p q => (fp52 b (by omega)).trans (r53 b p q)
  have r56 : ∀ b, 256 ≤ b → b < 259 → hp52.2 b = hp30.2 b := fun b p q => (fp52 b (by omega)).trans (r56 b p q)
  have r59 : ∀ b, 259 ≤ b → b < 1061 → hp52.2 b = hp33.2 b := fun b p q => (fp52 b (by omega)).trans (r59 b p q)
  have r61 : ∀ b, 1061 ≤ b → b < 1863 → hp52.2 b = hp36.2 b := fun b p q => (fp52 b (by omega)).trans (r61 b p q)
  have r65 : ∀ b, 1865 ≤ b → b < 1869 → hp52.2 b = hp45.2 b := fun b p q => (fp52 b (by omega)).trans (r65 b p q)
  have r70 : ∀ b, 1870 ≤ b → b < 1874 → hp52.2 b = hp50.2 b := fun b p q => (fp52 b (by omega)).trans (r70 b p q)
  have hfr : ∀ b, (b < 233) → hp52.2 b = h.2 b := fun b hb => (fp52 b (by omega)).trans (hfr b hb)
  have a74 : hp52.2 _ = some (.inl (7, 200, .inr (.inr (.inr (.inr (fun _ => none)))))) := cp52
  refine go_putfF (pc' := 213) dX14_init_210 rfl pf_LandBaseModel_477 (fun _ => rfl) hh (by decide) rfl rfl (fun hp53 zp53 cp53 fp53 => ?_)
  have hz := zp53.trans hz
  have a34 := (fp53 _ (by omega)).trans a34
  have a35 := (fp53 _ (by omega)).trans a35
  have a36 := (fp53 _ (by omega)).trans a36
  have a37 := (fp53 _ (by omega)).trans a37
  have a38 := (fp53 _ (by omega)).trans a38
  have a39 := (fp53 _ (by omega)).trans a39
  have a40 := (fp53 _ (by omega)).trans a40
  have a49 := (fp53 _ (by omega)).trans a49
  have a63 := (fp53 _ (by omega)).trans a63
  have a64 := (fp53 _ (by omega)).trans a64
  have a69 := (fp53 _ (by omega)).trans a69
  have a74 := (fp53 _ (by omega)).trans a74
  have r41 : ∀ b, 241 ≤ b → b < 245 → hp53.2 b = hp16.2 b := fun b p q => (fp53 b (by omega)).trans (r41 b p q)
  have r45 : ∀ b, 245 ≤ b → b < 249 → hp53.2 b = hp19.2 b := fun b p q => (fp53 b (by omega)).trans (r45 b p q)
  have r50 : ∀ b, 250 ≤ b → b < 253 → hp53.2 b = hp24.2 b := fun b p q => (fp53 b (by omega)).trans (r50 b p q)
  have r53 : ∀ b, 253 ≤ b → b < 256 → hp53.2 b = hp27.2 b := fun b p q => (fp53 b (by omega)).trans (r53 b p q)
  have r56 : ∀ b, 256 ≤ b → b < 259 → hp53.2 b = hp30.2 b := fun b p q => (fp53 b (by omega)).trans (r56 b p q)
  have r59 : ∀ b, 259 ≤ b → b < 1061 → hp53.2 b = hp33.2 b := fun b p q => (fp53 b (by omega)).trans (r59 b p q)
  have r61 : ∀ b, 1061 ≤ b → b < 1863 → hp53.2 b = hp36.2 b := fun b p q => (fp53 b (by omega)).trans (r61 b p q)
  have r65 : ∀ b, 1865 ≤ b → b < 1869 → hp53.2 b = hp45.2 b := fun b p q => (fp53 b (by omega)).trans (r65 b p q)
  have r70 : ∀ b, 1870 ≤ b → b < 1874 → hp53.2 b = hp50.2 b := fun b p q => (fp53 b (by omega)).trans (r70 b p q)
  have hfr : ∀ b, (b < 233) → hp53.2 b = h.2 b := fun b hb => (fp53 b (by omega)).trans (hfr b hb)
  have hh := cp53
  first | refine go_aload_n (i := 0) (pc' := 214) dX14_init_213 rfl rfl rfl ?_ | refine go_aloadX_n (i := 0) (pc' := 214) dX14_init_213 rfl rfl rfl ?_ | refine go_aload_nN (i := 0) (pc' := 214) dX14_init_213 rfl rfl rfl ?_
  refine go_sipush (v := 200) (pc' := 217) dX14_init_214 rfl (by decide) ?_
  refine go_newarrayK (t := 0) (N := 200) (pc' := 219) dX14_init_217 rfl rfl (by decide) wd_149 (by decide) (by decide) (by decide) hz (fun hp54 zp54 cp54 fp54 => ?_)
  have hz := zp54
  have hh := (fp54 _ (by omega)).trans hh
  have a34 := (fp54 _ (by omega)).trans a34
  have a35 := (fp54 _ (by omega)).trans a35
  have a36 := (fp54 _ (by omega)).trans a36
  have a37 := (fp54 _ (by omega)).trans a37
  have a38 := (fp54 _ (by omega)).trans a38
  have a39 := (fp54 _ (by omega)).trans a39
  have a40 := (fp54 _ (by omega)).trans a40
  have a49 := (fp54 _ (by omega)).trans a49
  have a63 := (fp54 _ (by omega)).trans a63
  have a64 := (fp54 _ (by omega)).trans a64
  have a69 := (fp54 _ (by omega)).trans a69
  have a74 := (fp54 _ (by omega)).trans a74
  have r41 : ∀ b, 241 ≤ b → b < 245 → hp54.2 b = hp16.2 b := fun b p q => (fp54 b (by omega)).trans (r41 b p q)
  have r45 : ∀ b, 245 ≤ b → b < 249 → hp54.2 b = hp19.2 b := fun b p q => (fp54 b (by omega)).trans (r45 b p q)
  have r50 : ∀ b, 250 ≤ b → b < 253 → hp54.2 b = hp24.2 b := fun b p q => (fp54 b (by omega)).trans (r50 b p q)
  have r53 : ∀ b, 253 ≤ b → b < 256 → hp54.2 b = hp27.2 b := fun b p q => (fp54 b (by omega)).trans (r53 b p q)
  have r56 : ∀ b, 256 ≤ b → b < 259 → hp54.2 b = hp30.2 b := fun b p q => (fp54 b (by omega)).trans (r56 b p q)
  have r59 : ∀ b, 259 ≤ b → b < 1061 → hp54.2 b = hp33.2 b := fun b p q => (fp54 b (by omega)).trans (r59 b p q)
  have r61 : ∀ b, 1061 ≤ b → b < 1863 → hp54.2 b = hp36.2 b := fun b p q => (fp54 b (by omega)).trans (r61 b p q)
  have r65 : ∀ b, 1865 ≤ b → b < 1869 → hp54.2 b = hp45.2 b := fun b p q => (fp54 b (by omega)).trans (r65 b p q)
  have r70 : ∀ b, 1870 ≤ b → b < 1874 → hp54.2 b = hp50.2 b := fun b p q => (fp54 b (by omega)).trans (r70 b p q)
  have hfr : ∀ b, (b < 233) → hp54.2 b = h.2 b := fun b hb => (fp54 b (by omega)).trans (hfr b hb)
  have a75 : hp54.2 _ = some (.inl (0, 200, .inl (fun _ => 0))) := cp54
  refine go_putfF (pc' := 222) dX14_init_219 rfl pf_LandBaseModel_481 (fun _ => rfl) hh (by decide) rfl rfl (fun hp55 zp55 cp55 fp55 => ?_)
  have hz := zp55.trans hz
  have a34 := (fp55 _ (by omega)).trans a34
  have a35 := (fp55 _ (by omega)).trans a35
  have a36 := (fp55 _ (by omega)).trans a36
  have a37 := (fp55 _ (by omega)).trans a37
  have a38 := (fp55 _ (by omega)).trans a38
  have a39 := (fp55 _ (by omega)).trans a39
  have a40 := (fp55 _ (by omega)).trans a40
  have a49 := (fp55 _ (by omega)).trans a49
  have a63 := (fp55 _ (by omega)).trans a63
  have a64 := (fp55 _ (by omega)).trans a64
  have a69 := (fp55 _ (by omega)).trans a69
  have a74 := (fp55 _ (by omega)).trans a74
  have a75 := (fp55 _ (by omega)).trans a75
  have r41 : ∀ b, 241 ≤ b → b < 245 → hp55.2 b = hp16.2 b := fun b p q => (fp55 b (by omega)).trans (r41 b p q)
  have r45 : ∀ b, 245 ≤ b → b < 249 → hp55.2 b = hp19.2 b := fun b p q => (fp55 b (by omega)).trans (r45 b p q)
  have r50 : ∀ b, 250 ≤ b → b < 253 → hp55.2 b = hp24.2 b := fun b p q => (fp55 b (by omega)).trans (r50 b p q)
  have r53 : ∀ b, 253 ≤ b → b < 256 → hp55.2 b = hp27.2 b := fun b p q => (fp55 b (by omega)).trans (r53 b p q)
  have r56 : ∀ b, 256 ≤ b → b < 259 → hp55.2 b = hp30.2 b := fun b p q => (fp55 b (by omega)).trans (r56 b p q)
  have r59 : ∀ b, 259 ≤ b → b < 1061 → hp55.2 b = hp33.2 b := fun b p q => (fp55 b (by omega)).trans (r59 b p q)
  have r61 : ∀ b, 1061 ≤ b → b < 1863 → hp55.2 b = hp36.2 b := fun b p q => (fp55 b (by omega)).trans (r61 b p q)
  have r65 : ∀ b, 1865 ≤ b → b < 1869 → hp55.2 b = hp45.2 b := fun b p q => (fp55 b (by omega)).trans (r65 b p q)
  have r70 : ∀ b, 1870 ≤ b → b < 1874 → hp55.2 b = hp50.2 b := fun b p q => (fp55 b (by omega)).trans (r70 b p q)
  have hfr : ∀ b, (b < 233) → hp55.2 b = h.2 b := fun b hb => (fp55 b (by omega)).trans (hfr b hb)
  have hh := cp55
  refine go_iconst (v := 0) (pc' := 223) dX14_init_222 rfl (by decide) ?_
  refine go_istore_n (i := 1) (pc' := 224) dX14_init_223 rfl rfl (by decide) rfl ?_
  have hz : hp55.1 = (1876, 100311) := hz
  refine g_Model_init rfl 200 0 _ _ rfl hz hh a74 (fun j hj => absurd hj (by omega)) (fun h' f' e1 e2 e3 e4 e5 => ?_)
  refine Go.ret (v := none) dX14_init_250 rfl ⟨trivial, rfl, e1, ⟨⟨_, e2, ⟨rfl, rfl, rfl, rfl, rfl, rfl, rfl, rfl, rfl, rfl, rfl, rfl, rfl, rfl, rfl, rfl, rfl, rfl, rfl, rfl, rfl, rfl⟩, ⟨rfl, rfl, rfl, rfl, rfl, rfl, rfl, rfl, rfl, rfl, rfl, rfl, rfl, rfl, rfl⟩⟩, ⟨(e5 _ (by omega)).trans a34, (e5 _ (by omega)).trans a35, (e5 _ (by omega)).trans a36, (e5 _ (by omega)).trans a37, (e5 _ (by omega)).trans a38, (e5 _ (by omega)).trans a39, (e5 _ (by omega)).trans a40⟩,
    ⟨s41.kept (fun b p q => (e5 b (by omega)).trans (r41 b (by omega) (by omega))), s45.kept (fun b p q => (e5 b (by omega)).trans (r45 b (by omega) (by omega))), (e5 _ (by omega)).trans a49, s50.kept (fun b p q => (e5 b (by omega)).trans (r50 b (by omega) (by omega))), s53.kept (fun b p q => (e5 b (by omega)).trans (r53 b (by omega) (by omega))), s56.kept (fun b p q => (e5 b (by omega)).trans (r56 b (by omega) (by omega))), s59.kept (fun b p q => (e5 b (by omega)).trans (r59 b (by omega) (by omega))), s61.kept (fun b p q => (e5 b (by omega)).trans (r61 b (by omega) (by omega)))⟩,
    ⟨(e5 _ (by omega)).trans a63, (e5 _ (by omega)).trans a64, s65.kept (fun b p q => (e5 b (by omega)).trans (r65 b (by omega) (by omega))), (e5 _ (by omega)).trans a69, s70.kept (fun b p q => (e5 b (by omega)).trans (r70 b (by omega) (by omega))), (e5 _ (by omega)).trans a75⟩, ⟨f', e3, e4⟩⟩, fun b hb => (e5 b (by omega)).trans (hfr b hb)⟩
end
section
/-! THE CLAIM OUT OF ONE WALK OF THE LAW'S BODY. Your part is whole_start (and what it stands on); all else here is the same for every law, but numbers. -/
def R_law : String := "LandBaseLaw"
def lw_P (b : Addr) (xs : List Int32) (args : Array Value) (s : State) : Prop := args = #[.ref b] ∧ s.IntsAt b xs ∧ xs.length ≤ 11 ∧ (Jvm.Cond.and given_1 narrow_1).before args s = true
def lw_Q (_ : Array Value) (s : State) (o : Outcome) (t : State) : Prop := o = .returned (some (.int 1)) ∧ Framed s o t [] 600000 7302250
def lw_Z (below : List Frame) (a : Array Value) (s : State) : State → Prop := fun t => ∃ o, t.status = .running ∧ Ended t below o ∧ lw_Q a s o t
/-- the law's own end, with 1 on the stack, nothing written that was there before, its room as the claim has it -/
theorem lw_ret {p : Program} {l : Launch} {e : Env} {s : State} {m : MethodId} {below : List Frame} {meth : Method} {c : Code} {b : Nat} (hx : p.tables.exec = Jvm.exec) (hb : c.code = code) (hr : meth.sig.returnType = ret) (hlocks : meth.locks = false) {pc : Nat} {H : Heap} {ls : Array Slot} (hdg : decode code pc = .ok (.ireturn, 1)) : W p l e room_1 s m #[Value.ref b] below meth c H [] 600000 7302250 (lw_Z below #[Value.ref b] s) (F0 m pc ls [.int 1]) := by
  intro T hT X
  obtain ⟨fs, hret, hrun, hended, hW, hframe⟩ := X.leave (v := some (.int 1)) (hlocks := hlocks) (fun h => by rw [hr] at h; cases h)
  have hmeth' : T.vm.method? m = some meth := X.method'
  refine ⟨T.setFrames fs, ?_, .returned (some (.int 1)), hrun, hended, rfl, ⟨_, rfl⟩, hW, hframe⟩
  jvm_step X.here [X.here.top, hx, hb, hdg, hmeth', hr, ret, narrow_b1]
  (try refine ⟨rfl, ?_⟩); (try refine ⟨rfl, ?_⟩)
  first | (intro acts; rw [hret _ acts rfl rfl rfl]) | rw [hret _ _ rfl rfl rfl]
  exact Steps.refl _
/-- what holds at the law's entry: the machine, the code, the tables' words (any of lw_tbl by 'hts w (by decide +kernel)'), the script of L ints xs at the cell b, what the Statement gives of the start (any of its parts by flat_of_before) -/
def lw_At (p : Program) (s : State) (m : MethodId) (meth : Method) (c : Code) (b L : Nat) (xs : Nat → Int32) : Prop :=
  p.tables.exec = Jvm.exec ∧ c.code = code ∧ meth.sig.returnType = ret ∧ c.maxLocals = 4 ∧ s.vm.findClass R_law = some m.cls ∧ (∀ w ∈ lw_tbl, w.before #[Value.ref b] s = true) ∧ va_X b L xs s s.heap ∧ b < s.heap.size ∧ meth.locks = false ∧ (Jvm.Cond.and given_1 narrow_1).before #[Value.ref b] s = true
end
section
/-! THE LAW'S BODY, over what the calls do -/
theorem go_slen {G : xG} {M : xM} {pc pc' : Nat} {L : xL} {S : List Value} {h : xH} {P : Option Value → xH → Prop} (d : decode (xBy M) pc = .ok (.arraylength, 1)) (e : pc + 1 = pc') (k : Go G M pc' L (.int (nI (gN G)) :: S) h P) : Go G M pc L (.retAddr 99 :: S) h P :=
  k.go (fun _ _ _ _ _ _ _ _ _ _ _ _ _ _ _ X hH hS hL w => by
    subst e
    have hX := X.2.2.2.2.2.2.1.2.2.2.2
    have hbl : gX G 99 < gB G := by obtain ⟨scr, h1, -⟩ := hX; exact (Array.getElem?_eq_some_iff.mp h1).1
    exact va_slen X.1 X.2.1 hX hbl (fun q => Nat.not_le.mpr hbl q) hS d (w _ hL))
theorem go_sld {G : xG} {M : xM} {pc pc' : Nat} {L : xL} {S : List Value} {h : xH} {P : Option Value → xH → Prop} {i : Int32} (j : Nat) (d : decode (xBy M) pc = .ok (.iaload, 1)) (e : pc + 1 = pc') (hi : i = nI j) (hj : j < gN G) (hN : gN G < 2 ^ 31) (k : Go G M pc' L (.int (gS G j) :: S) h P) : Go G M pc L (.int i :: .retAddr 99 :: S) h P :=
  k.go (fun _ _ _ _ _ _ _ _ _ _ _ _ _ _ _ X hH hS hL w => by
    subst e; subst hi
    have hX := X.2.2.2.2.2.2.1.2.2.2.2
    have hbl : gX G 99 < gB G := by obtain ⟨scr, h1, -⟩ := hX; exact (Array.getElem?_eq_some_iff.mp h1).1
    refine va_sld X.1 X.2.1 hX hbl (fun q => Nat.not_le.mpr hbl q) hS (vp_in_nI hj hN) d ?_
    rw [nI_clamp (by omega)]
    exact w _ hL)
/-- one call of the system and the same of the reference: they answer alike -/
def Pr (G : xG) (Mc Mr : xM) (As : List Value) (J : xH → Prop) (h : xH) : Prop := Ca G Mc (.ref 0 :: As) h (fun v h1 => ∃ x F, v = some (.int x) ∧ h1.2 233 = some (.inr (13, mkF F 58)) ∧ Ca G Mr (.ref 233 :: As) h1 (fun v2 h2 => v2 = some (.int x) ∧ J h2))
/-- what each call owes, from the n-th state on -/
def Ow (G : xG) (I J : xH → Prop) : Prop :=
  (∀ h, I h → ∀ (a b c d e : Int64), Pr G mX10_feed mX14_feed [.long a, .long b, .long c, .long d, .long e] J h) ∧
  (∀ h, I h → ∀ (a : Int32), Pr G mX10_end mX14_end [.int a] J h) ∧
  (∀ h, I h → Pr G mX10_run mX14_run [] J h) ∧
  (∀ h, I h → Pr G mX10_wrong mX14_wrong [] J h) ∧
  (∀ h, I h → Pr G mX10_outputs mX14_outputs [] J h) ∧
  (∀ h, I h → ∀ (a : Int32), Pr G mX10_out mX14_out [.int a] J h) ∧
  (∀ h, I h → ∀ (a b c : Int32), Pr G mX10_crash mX14_crash [.int a, .int b, .int c] J h) ∧
  (∀ h, I h → Pr G mX10_recover mX14_recover [] J h) ∧
  (∀ h, I h → Pr G mX10_isDown mX14_isDown [] J h) ∧
  (∀ h, I h → Pr G mX10_isOpen mX14_isOpen [] J h) ∧
  (∀ h, I h → Pr G mX10_live mX14_live [] J h) ∧
  (∀ h, I h → ∀ (a : Int32), Pr G mX10_idAt mX14_idAt [.int a] J h) ∧
  (∀ h, I h → ∀ (a : Int32), Pr G mX10_kindOf mX14_kindOf [.int a] J h) ∧
  (∀ h, I h → ∀ (a : Int32), Pr G mX10_places mX14_places [.int a] J h) ∧
  (∀ h, I h → ∀ (a : Int32), Pr G mX10_rings mX14_rings [.int a] J h) ∧
  (∀ h, I h → ∀ (a b c : Int32), Pr G mX10_at mX14_at [.int a, .int b, .int c] J h) ∧
  (∀ h, I h → ∀ (a b c : Int32), Pr G mX10_relate mX14_relate [.int a, .int b, .int c] J h) ∧
  (∀ h, I h → ∀ (a b c d : Int32), Pr G mX10_nearer mX14_nearer [.int a, .int b, .int c, .int d] J h) ∧
  (∀ h, I h → Pr G mX10_used mX14_used [] J h) ∧
  (∀ h, I h → Pr G mX10_saves mX14_saves [] J h) ∧
  (∀ h, I h → Pr G mX10_flaws mX14_flaws [] J h)
set_option maxRecDepth 100000 in
theorem law_feed {G : xG} {I J : xH → Prop} {n : Nat} {h : xH} {P : Option Value → xH → Prop} (hn : 11 * n + 11 ≤ gN G) (hN : gN G ≤ 5632) (h0 : ∃ fs, h.2 0 = some (.inr (9, fs))) (hO : Ow G I J) (hI : I h) (k : ∀ h', J h' → Go G mL_law 805 [some (.retAddr 99), some (.ref 0), some (.ref 233), some (.int (nI (11 * n)))] [] h' P) : Go G mL_law 132 [some (.retAddr 99), some (.ref 0), some (.ref 233), some (.int (nI (11 * n)))] [] h P := by
  obtain ⟨o0, o1, o2, o3, o4, o5, o6, o7, o8, o9, o10, o11, o12, o13, o14, o15, o16, o17, o18, o19, o20⟩ := hO
  obtain ⟨fs, h0⟩ := h0
  first | refine go_aload_n (i := 1) (pc' := 133) dL_law_132 rfl rfl rfl ?_ | refine go_aloadX_n (i := 1) (pc' := 133) dL_law_132 rfl rfl rfl ?_ | refine go_aload_nN (i := 1) (pc' := 133) dL_law_132 rfl rfl rfl ?_
  first | refine go_aload_n (i := 0) (pc' := 134) dL_law_133 rfl rfl rfl ?_ | refine go_aloadX_n (i := 0) (pc' := 134) dL_law_133 rfl rfl rfl ?_ | refine go_aload_nN (i := 0) (pc' := 134) dL_law_133 rfl rfl rfl ?_
  refine go_iload_n (i := 3) (pc' := 135) dL_law_134 rfl rfl rfl ?_
  refine go_iconst (v := 1) (pc' := 136) dL_law_135 rfl (by decide) ?_
  refine go_iadd (pc' := 137) dL_law_136 rfl ?_
  refine go_sld (pc' := 138) (11 * n + 1) dL_law_137 rfl (nI_add (11 * n) 1) (by omega) (by omega) ?_
  refine go_i2l (pc' := 139) dL_law_138 rfl rfl ?_
  refine go_bipush (v := 32) (pc' := 141) dL_law_139 rfl (by decide) ?_
  refine go_lshl (pc' := 142) dL_law_141 rfl rfl ?_
  first | refine go_aload_n (i := 0) (pc' := 143) dL_law_142 rfl rfl rfl ?_ | refine go_aloadX_n (i := 0) (pc' := 143) dL_law_142 rfl rfl rfl ?_ | refine go_aload_nN (i := 0) (pc' := 143) dL_law_142 rfl rfl rfl ?_
  refine go_iload_n (i := 3) (pc' := 144) dL_law_143 rfl rfl rfl ?_
  refine go_iconst (v := 2) (pc' := 145) dL_law_144 rfl (by decide) ?_
  refine go_iadd (pc' := 146) dL_law_145 rfl ?_
  refine go_sld (pc' := 147) (11 * n + 2) dL_law_146 rfl (nI_add (11 * n) 2) (by omega) (by omega) ?_
  refine go_i2l (pc' := 148) dL_law_147 rfl rfl ?_
  refine go_ldc2 (pc' := 151) dL_law_148 rfl wd_1725 ?_
  refine go_land (pc' := 152) dL_law_151 rfl ?_
  refine go_lor (pc' := 153) dL_law_152 rfl ?_
  first | refine go_aload_n (i := 0) (pc' := 154) dL_law_153 rfl rfl rfl ?_ | refine go_aloadX_n (i := 0) (pc' := 154) dL_law_153 rfl rfl rfl ?_ | refine go_aload_nN (i := 0) (pc' := 154) dL_law_153 rfl rfl rfl ?_
  refine go_iload_n (i := 3) (pc' := 155) dL_law_154 rfl rfl rfl ?_
  refine go_iconst (v := 3) (pc' := 156) dL_law_155 rfl (by decide) ?_
  refine go_iadd (pc' := 157) dL_law_156 rfl ?_
  refine go_sld (pc' := 158) (11 * n + 3) dL_law_157 rfl (nI_add (11 * n) 3) (by omega) (by omega) ?_
  refine go_i2l (pc' := 159) dL_law_158 rfl rfl ?_
  refine go_bipush (v := 32) (pc' := 161) dL_law_159 rfl (by decide) ?_
  refine go_lshl (pc' := 162) dL_law_161 rfl rfl ?_
  first | refine go_aload_n (i := 0) (pc' := 163) dL_law_162 rfl rfl rfl ?_ | refine go_aloadX_n (i := 0) (pc' := 163) dL_law_162 rfl rfl rfl ?_ | refine go_aload_nN (i := 0) (pc' := 163) dL_law_162 rfl rfl rfl ?_
  refine go_iload_n (i := 3) (pc' := 164) dL_law_163 rfl rfl rfl ?_
  refine go_iconst (v := 4) (pc' := 165) dL_law_164 rfl (by decide) ?_
  refine go_iadd (pc' := 166) dL_law_165 rfl ?_
  refine go_sld (pc' := 167) (11 * n + 4) dL_law_166 rfl (nI_add (11 * n) 4) (by omega) (by omega) ?_
  refine go_i2l (pc' := 168) dL_law_167 rfl rfl ?_
  refine go_ldc2 (pc' := 171) dL_law_168 rfl wd_1725 ?_
  refine go_land (pc' := 172) dL_law_171 rfl ?_
  refine go_lor (pc' := 173) dL_law_172 rfl ?_
  first | refine go_aload_n (i := 0) (pc' := 174) dL_law_173 rfl rfl rfl ?_ | refine go_aloadX_n (i := 0) (pc' := 174) dL_law_173 rfl rfl rfl ?_ | refine go_aload_nN (i := 0) (pc' := 174) dL_law_173 rfl rfl rfl ?_
  refine go_iload_n (i := 3) (pc' := 175) dL_law_174 rfl rfl rfl ?_
  refine go_iconst (v := 5) (pc' := 176) dL_law_175 rfl (by decide) ?_
  refine go_iadd (pc' := 177) dL_law_176 rfl ?_
  refine go_sld (pc' := 178) (11 * n + 5) dL_law_177 rfl (nI_add (11 * n) 5) (by omega) (by omega) ?_
  refine go_i2l (pc' := 179) dL_law_178 rfl rfl ?_
  refine go_bipush (v := 32) (pc' := 181) dL_law_179 rfl (by decide) ?_
  refine go_lshl (pc' := 182) dL_law_181 rfl rfl ?_
  first | refine go_aload_n (i := 0) (pc' := 183) dL_law_182 rfl rfl rfl ?_ | refine go_aloadX_n (i := 0) (pc' := 183) dL_law_182 rfl rfl rfl ?_ | refine go_aload_nN (i := 0) (pc' := 183) dL_law_182 rfl rfl rfl ?_
  refine go_iload_n (i := 3) (pc' := 184) dL_law_183 rfl rfl rfl ?_
  refine go_bipush (v := 6) (pc' := 186) dL_law_184 rfl (by decide) ?_
  refine go_iadd (pc' := 187) dL_law_186 rfl ?_
  refine go_sld (pc' := 188) (11 * n + 6) dL_law_187 rfl (nI_add (11 * n) 6) (by omega) (by omega) ?_
  refine go_i2l (pc' := 189) dL_law_188 rfl rfl ?_
  refine go_ldc2 (pc' := 192) dL_law_189 rfl wd_1725 ?_
  refine go_land (pc' := 193) dL_law_192 rfl ?_
  refine go_lor (pc' := 194) dL_law_193 rfl ?_
  first | refine go_aload_n (i := 0) (pc' := 195) dL_law_194 rfl rfl rfl ?_ | refine go_aloadX_n (i := 0) (pc' := 195) dL_law_194 rfl rfl rfl ?_ | refine go_aload_nN (i := 0) (pc' := 195) dL_law_194 rfl rfl rfl ?_
  refine go_iload_n (i := 3) (pc' := 196) dL_law_195 rfl rfl rfl ?_
  refine go_bipush (v := 7) (pc' := 198) dL_law_196 rfl (by decide) ?_
  refine go_iadd (pc' := 199) dL_law_198 rfl ?_
  refine go_sld (pc' := 200) (11 * n + 7) dL_law_199 rfl (nI_add (11 * n) 7) (by omega) (by omega) ?_
  refine go_i2l (pc' := 201) dL_law_200 rfl rfl ?_
  refine go_bipush (v := 32) (pc' := 203) dL_law_201 rfl (by decide) ?_
  refine go_lshl (pc' := 204) dL_law_203 rfl rfl ?_
  first | refine go_aload_n (i := 0) (pc' := 205) dL_law_204 rfl rfl rfl ?_ | refine go_aloadX_n (i := 0) (pc' := 205) dL_law_204 rfl rfl rfl ?_ | refine go_aload_nN (i := 0) (pc' := 205) dL_law_204 rfl rfl rfl ?_
  refine go_iload_n (i := 3) (pc' := 206) dL_law_205 rfl rfl rfl ?_
  refine go_bipush (v := 8) (pc' := 208) dL_law_206 rfl (by decide) ?_
  refine go_iadd (pc' := 209) dL_law_208 rfl ?_
  refine go_sld (pc' := 210) (11 * n + 8) dL_law_209 rfl (nI_add (11 * n) 8) (by omega) (by omega) ?_
  refine go_i2l (pc' := 211) dL_law_210 rfl rfl ?_
  refine go_ldc2 (pc' := 214) dL_law_211 rfl wd_1725 ?_
  refine go_land (pc' := 215) dL_law_214 rfl ?_
  refine go_lor (pc' := 216) dL_law_215 rfl ?_
  first | refine go_aload_n (i := 0) (pc' := 217) dL_law_216 rfl rfl rfl ?_ | refine go_aloadX_n (i := 0) (pc' := 217) dL_law_216 rfl rfl rfl ?_ | refine go_aload_nN (i := 0) (pc' := 217) dL_law_216 rfl rfl rfl ?_
  refine go_iload_n (i := 3) (pc' := 218) dL_law_217 rfl rfl rfl ?_
  refine go_bipush (v := 9) (pc' := 220) dL_law_218 rfl (by decide) ?_
  refine go_iadd (pc' := 221) dL_law_220 rfl ?_
  refine go_sld (pc' := 222) (11 * n + 9) dL_law_221 rfl (nI_add (11 * n) 9) (by omega) (by omega) ?_
  refine go_i2l (pc' := 223) dL_law_222 rfl rfl ?_
  refine go_bipush (v := 32) (pc' := 225) dL_law_223 rfl (by decide) ?_
  refine go_lshl (pc' := 226) dL_law_225 rfl rfl ?_
  first | refine go_aload_n (i := 0) (pc' := 227) dL_law_226 rfl rfl rfl ?_ | refine go_aloadX_n (i := 0) (pc' := 227) dL_law_226 rfl rfl rfl ?_ | refine go_aload_nN (i := 0) (pc' := 227) dL_law_226 rfl rfl rfl ?_
  refine go_iload_n (i := 3) (pc' := 228) dL_law_227 rfl rfl rfl ?_
  refine go_bipush (v := 10) (pc' := 230) dL_law_228 rfl (by decide) ?_
  refine go_iadd (pc' := 231) dL_law_230 rfl ?_
  refine go_sld (pc' := 232) (11 * n + 10) dL_law_231 rfl (nI_add (11 * n) 10) (by omega) (by omega) ?_
  refine go_i2l (pc' := 233) dL_law_232 rfl rfl ?_
  refine go_ldc2 (pc' := 236) dL_law_233 rfl wd_1725 ?_
  refine go_land (pc' := 237) dL_law_236 rfl ?_
  refine go_lor (pc' := 238) dL_law_237 rfl ?_
  refine go_invV (As := [_, _, _, _, _]) (pc' := 241) dL_law_238 rfl cf_L_law_15 rfl h0 rfl rfl (Nat.le_of_ble_eq_true rfl) (o0 _ hI _ _ _ _ _) (fun v1 h1 q1 => ?_)
  obtain ⟨x, F, rfl, hM, q2⟩ := q1
  first | refine go_aload_n (i := 2) (pc' := 242) dL_law_241 rfl rfl rfl ?_ | refine go_aloadX_n (i := 2) (pc' := 242) dL_law_241 rfl rfl rfl ?_ | refine go_aload_nN (i := 2) (pc' := 242) dL_law_241 rfl rfl rfl ?_
  first | refine go_aload_n (i := 0) (pc' := 243) dL_law_242 rfl rfl rfl ?_ | refine go_aloadX_n (i := 0) (pc' := 243) dL_law_242 rfl rfl rfl ?_ | refine go_aload_nN (i := 0) (pc' := 243) dL_law_242 rfl rfl rfl ?_
  refine go_iload_n (i := 3) (pc' := 244) dL_law_243 rfl rfl rfl ?_
  refine go_iconst (v := 1) (pc' := 245) dL_law_244 rfl (by decide) ?_
  refine go_iadd (pc' := 246) dL_law_245 rfl ?_
  refine go_sld (pc' := 247) (11 * n + 1) dL_law_246 rfl (nI_add (11 * n) 1) (by omega) (by omega) ?_
  refine go_i2l (pc' := 248) dL_law_247 rfl rfl ?_
  refine go_bipush (v := 32) (pc' := 250) dL_law_248 rfl (by decide) ?_
  refine go_lshl (pc' := 251) dL_law_250 rfl rfl ?_
  first | refine go_aload_n (i := 0) (pc' := 252) dL_law_251 rfl rfl rfl ?_ | refine go_aloadX_n (i := 0) (pc' := 252) dL_law_251 rfl rfl rfl ?_ | refine go_aload_nN (i := 0) (pc' := 252) dL_law_251 rfl rfl rfl ?_
  refine go_iload_n (i := 3) (pc' := 253) dL_law_252 rfl rfl rfl ?_
  refine go_iconst (v := 2) (pc' := 254) dL_law_253 rfl (by decide) ?_
  refine go_iadd (pc' := 255) dL_law_254 rfl ?_
  refine go_sld (pc' := 256) (11 * n + 2) dL_law_255 rfl (nI_add (11 * n) 2) (by omega) (by omega) ?_
  refine go_i2l (pc' := 257) dL_law_256 rfl rfl ?_
  refine go_ldc2 (pc' := 260) dL_law_257 rfl wd_1725 ?_
  refine go_land (pc' := 261) dL_law_260 rfl ?_
  refine go_lor (pc' := 262) dL_law_261 rfl ?_
  first | refine go_aload_n (i := 0) (pc' := 263) dL_law_262 rfl rfl rfl ?_ | refine go_aloadX_n (i := 0) (pc' := 263) dL_law_262 rfl rfl rfl ?_ | refine go_aload_nN (i := 0) (pc' := 263) dL_law_262 rfl rfl rfl ?_
  refine go_iload_n (i := 3) (pc' := 264) dL_law_263 rfl rfl rfl ?_
  refine go_iconst (v := 3) (pc' := 265) dL_law_264 rfl (by decide) ?_
  refine go_iadd (pc' := 266) dL_law_265 rfl ?_
  refine go_sld (pc' := 267) (11 * n + 3) dL_law_266 rfl (nI_add (11 * n) 3) (by omega) (by omega) ?_
  refine go_i2l (pc' := 268) dL_law_267 rfl rfl ?_
  refine go_bipush (v := 32) (pc' := 270) dL_law_268 rfl (by decide) ?_
  refine go_lshl (pc' := 271) dL_law_270 rfl rfl ?_
  first | refine go_aload_n (i := 0) (pc' := 272) dL_law_271 rfl rfl rfl ?_ | refine go_aloadX_n (i := 0) (pc' := 272) dL_law_271 rfl rfl rfl ?_ | refine go_aload_nN (i := 0) (pc' := 272) dL_law_271 rfl rfl rfl ?_
  refine go_iload_n (i := 3) (pc' := 273) dL_law_272 rfl rfl rfl ?_
  refine go_iconst (v := 4) (pc' := 274) dL_law_273 rfl (by decide) ?_
  refine go_iadd (pc' := 275) dL_law_274 rfl ?_
  refine go_sld (pc' := 276) (11 * n + 4) dL_law_275 rfl (nI_add (11 * n) 4) (by omega) (by omega) ?_
  refine go_i2l (pc' := 277) dL_law_276 rfl rfl ?_
  refine go_ldc2 (pc' := 280) dL_law_277 rfl wd_1725 ?_
  refine go_land (pc' := 281) dL_law_280 rfl ?_
  refine go_lor (pc' := 282) dL_law_281 rfl ?_
  first | refine go_aload_n (i := 0) (pc' := 283) dL_law_282 rfl rfl rfl ?_ | refine go_aloadX_n (i := 0) (pc' := 283) dL_law_282 rfl rfl rfl ?_ | refine go_aload_nN (i := 0) (pc' := 283) dL_law_282 rfl rfl rfl ?_
  refine go_iload_n (i := 3) (pc' := 284) dL_law_283 rfl rfl rfl ?_
  refine go_iconst (v := 5) (pc' := 285) dL_law_284 rfl (by decide) ?_
  refine go_iadd (pc' := 286) dL_law_285 rfl ?_
  refine go_sld (pc' := 287) (11 * n + 5) dL_law_286 rfl (nI_add (11 * n) 5) (by omega) (by omega) ?_
  refine go_i2l (pc' := 288) dL_law_287 rfl rfl ?_
  refine go_bipush (v := 32) (pc' := 290) dL_law_288 rfl (by decide) ?_
  refine go_lshl (pc' := 291) dL_law_290 rfl rfl ?_
  first | refine go_aload_n (i := 0) (pc' := 292) dL_law_291 rfl rfl rfl ?_ | refine go_aloadX_n (i := 0) (pc' := 292) dL_law_291 rfl rfl rfl ?_ | refine go_aload_nN (i := 0) (pc' := 292) dL_law_291 rfl rfl rfl ?_
  refine go_iload_n (i := 3) (pc' := 293) dL_law_292 rfl rfl rfl ?_
  refine go_bipush (v := 6) (pc' := 295) dL_law_293 rfl (by decide) ?_
  refine go_iadd (pc' := 296) dL_law_295 rfl ?_
  refine go_sld (pc' := 297) (11 * n + 6) dL_law_296 rfl (nI_add (11 * n) 6) (by omega) (by omega) ?_
  refine go_i2l (pc' := 298) dL_law_297 rfl rfl ?_
  refine go_ldc2 (pc' := 301) dL_law_298 rfl wd_1725 ?_
  refine go_land (pc' := 302) dL_law_301 rfl ?_
  refine go_lor (pc' := 303) dL_law_302 rfl ?_
  first | refine go_aload_n (i := 0) (pc' := 304) dL_law_303 rfl rfl rfl ?_ | refine go_aloadX_n (i := 0) (pc' := 304) dL_law_303 rfl rfl rfl ?_ | refine go_aload_nN (i := 0) (pc' := 304) dL_law_303 rfl rfl rfl ?_
  refine go_iload_n (i := 3) (pc' := 305) dL_law_304 rfl rfl rfl ?_
  refine go_bipush (v := 7) (pc' := 307) dL_law_305 rfl (by decide) ?_
  refine go_iadd (pc' := 308) dL_law_307 rfl ?_
  refine go_sld (pc' := 309) (11 * n + 7) dL_law_308 rfl (nI_add (11 * n) 7) (by omega) (by omega) ?_
  refine go_i2l (pc' := 310) dL_law_309 rfl rfl ?_
  refine go_bipush (v := 32) (pc' := 312) dL_law_310 rfl (by decide) ?_
  refine go_lshl (pc' := 313) dL_law_312 rfl rfl ?_
  first | refine go_aload_n (i := 0) (pc' := 314) dL_law_313 rfl rfl rfl ?_ | refine go_aloadX_n (i := 0) (pc' := 314) dL_law_313 rfl rfl rfl ?_ | refine go_aload_nN (i := 0) (pc' := 314) dL_law_313 rfl rfl rfl ?_
  refine go_iload_n (i := 3) (pc' := 315) dL_law_314 rfl rfl rfl ?_
  refine go_bipush (v := 8) (pc' := 317) dL_law_315 rfl (by decide) ?_
  refine go_iadd (pc' := 318) dL_law_317 rfl ?_
  refine go_sld (pc' := 319) (11 * n + 8) dL_law_318 rfl (nI_add (11 * n) 8) (by omega) (by omega) ?_
  refine go_i2l (pc' := 320) dL_law_319 rfl rfl ?_
  refine go_ldc2 (pc' := 323) dL_law_320 rfl wd_1725 ?_
  refine go_land (pc' := 324) dL_law_323 rfl ?_
  refine go_lor (pc' := 325) dL_law_324 rfl ?_
  first | refine go_aload_n (i := 0) (pc' := 326) dL_law_325 rfl rfl rfl ?_ | refine go_aloadX_n (i := 0) (pc' := 326) dL_law_325 rfl rfl rfl ?_ | refine go_aload_nN (i := 0) (pc' := 326) dL_law_325 rfl rfl rfl ?_
  refine go_iload_n (i := 3) (pc' := 327) dL_law_326 rfl rfl rfl ?_
  refine go_bipush (v := 9) (pc' := 329) dL_law_327 rfl (by decide) ?_
  refine go_iadd (pc' := 330) dL_law_329 rfl ?_
  refine go_sld (pc' := 331) (11 * n + 9) dL_law_330 rfl (nI_add (11 * n) 9) (by omega) (by omega) ?_
  refine go_i2l (pc' := 332) dL_law_331 rfl rfl ?_
  refine go_bipush (v := 32) (pc' := 334) dL_law_332 rfl (by decide) ?_
  refine go_lshl (pc' := 335) dL_law_334 rfl rfl ?_
  first | refine go_aload_n (i := 0) (pc' := 336) dL_law_335 rfl rfl rfl ?_ | refine go_aloadX_n (i := 0) (pc' := 336) dL_law_335 rfl rfl rfl ?_ | refine go_aload_nN (i := 0) (pc' := 336) dL_law_335 rfl rfl rfl ?_
  refine go_iload_n (i := 3) (pc' := 337) dL_law_336 rfl rfl rfl ?_
  refine go_bipush (v := 10) (pc' := 339) dL_law_337 rfl (by decide) ?_
  refine go_iadd (pc' := 340) dL_law_339 rfl ?_
  refine go_sld (pc' := 341) (11 * n + 10) dL_law_340 rfl (nI_add (11 * n) 10) (by omega) (by omega) ?_
  refine go_i2l (pc' := 342) dL_law_341 rfl rfl ?_
  refine go_ldc2 (pc' := 345) dL_law_342 rfl wd_1725 ?_
  refine go_land (pc' := 346) dL_law_345 rfl ?_
  refine go_lor (pc' := 347) dL_law_346 rfl ?_
  refine go_invV (As := [_, _, _, _, _]) (pc' := 350) dL_law_347 rfl cf_L_law_19 rfl hM rfl rfl (Nat.le_of_ble_eq_true rfl) q2 (fun v2 h2 q3 => ?_)
  obtain ⟨rfl, hJ⟩ := q3
  refine go_icmp_eq (pc' := 353) (tgt := 805) dL_law_350 (by decide) rfl (fun c1 => ?_) (fun c1 => ?_)
  · exact k h2 hJ
  · exact absurd rfl c1
set_option maxRecDepth 100000 in
theorem law_end {G : xG} {I J : xH → Prop} {n : Nat} {h : xH} {P : Option Value → xH → Prop} (hn : 11 * n + 11 ≤ gN G) (hN : gN G ≤ 5632) (h0 : ∃ fs, h.2 0 = some (.inr (9, fs))) (hO : Ow G I J) (hI : I h) (k : ∀ h', J h' → Go G mL_law 805 [some (.retAddr 99), some (.ref 0), some (.ref 233), some (.int (nI (11 * n)))] [] h' P) : Go G mL_law 355 [some (.retAddr 99), some (.ref 0), some (.ref 233), some (.int (nI (11 * n)))] [] h P := by
  obtain ⟨o0, o1, o2, o3, o4, o5, o6, o7, o8, o9, o10, o11, o12, o13, o14, o15, o16, o17, o18, o19, o20⟩ := hO
  obtain ⟨fs, h0⟩ := h0
  first | refine go_aload_n (i := 1) (pc' := 356) dL_law_355 rfl rfl rfl ?_ | refine go_aloadX_n (i := 1) (pc' := 356) dL_law_355 rfl rfl rfl ?_ | refine go_aload_nN (i := 1) (pc' := 356) dL_law_355 rfl rfl rfl ?_
  first | refine go_aload_n (i := 0) (pc' := 357) dL_law_356 rfl rfl rfl ?_ | refine go_aloadX_n (i := 0) (pc' := 357) dL_law_356 rfl rfl rfl ?_ | refine go_aload_nN (i := 0) (pc' := 357) dL_law_356 rfl rfl rfl ?_
  refine go_iload_n (i := 3) (pc' := 358) dL_law_357 rfl rfl rfl ?_
  refine go_iconst (v := 1) (pc' := 359) dL_law_358 rfl (by decide) ?_
  refine go_iadd (pc' := 360) dL_law_359 rfl ?_
  refine go_sld (pc' := 361) (11 * n + 1) dL_law_360 rfl (nI_add (11 * n) 1) (by omega) (by omega) ?_
  refine go_invV (As := [_]) (pc' := 364) dL_law_361 rfl cf_L_law_20 rfl h0 rfl rfl (Nat.le_of_ble_eq_true rfl) (o1 _ hI _) (fun v1 h1 q1 => ?_)
  obtain ⟨x, F, rfl, hM, q2⟩ := q1
  first | refine go_aload_n (i := 2) (pc' := 365) dL_law_364 rfl rfl rfl ?_ | refine go_aloadX_n (i := 2) (pc' := 365) dL_law_364 rfl rfl rfl ?_ | refine go_aload_nN (i := 2) (pc' := 365) dL_law_364 rfl rfl rfl ?_
  first | refine go_aload_n (i := 0) (pc' := 366) dL_law_365 rfl rfl rfl ?_ | refine go_aloadX_n (i := 0) (pc' := 366) dL_law_365 rfl rfl rfl ?_ | refine go_aload_nN (i := 0) (pc' := 366) dL_law_365 rfl rfl rfl ?_
  refine go_iload_n (i := 3) (pc' := 367) dL_law_366 rfl rfl rfl ?_
  refine go_iconst (v := 1) (pc' := 368) dL_law_367 rfl (by decide) ?_
  refine go_iadd (pc' := 369) dL_law_368 rfl ?_
  refine go_sld (pc' := 370) (11 * n + 1) dL_law_369 rfl (nI_add (11 * n) 1) (by omega) (by omega) ?_
  refine go_invV (As := [_]) (pc' := 373) dL_law_370 rfl cf_L_law_24 rfl hM rfl rfl (Nat.le_of_ble_eq_true rfl) q2 (fun v2 h2 q3 => ?_)
  obtain ⟨rfl, hJ⟩ := q3
  refine go_icmp_eq (pc' := 376) (tgt := 805) dL_law_373 (by decide) rfl (fun c1 => ?_) (fun c1 => ?_)
  · exact k h2 hJ
  · exact absurd rfl c1
set_option maxRecDepth 100000 in
theorem law_run {G : xG} {I J : xH → Prop} {n : Nat} {h : xH} {P : Option Value → xH → Prop} (hn : 11 * n + 11 ≤ gN G) (hN : gN G ≤ 5632) (h0 : ∃ fs, h.2 0 = some (.inr (9, fs))) (hO : Ow G I J) (hI : I h) (k : ∀ h', J h' → Go G mL_law 805 [some (.retAddr 99), some (.ref 0), some (.ref 233), some (.int (nI (11 * n)))] [] h' P) : Go G mL_law 378 [some (.retAddr 99), some (.ref 0), some (.ref 233), some (.int (nI (11 * n)))] [] h P := by
  obtain ⟨o0, o1, o2, o3, o4, o5, o6, o7, o8, o9, o10, o11, o12, o13, o14, o15, o16, o17, o18, o19, o20⟩ := hO
  obtain ⟨fs, h0⟩ := h0
  first | refine go_aload_n (i := 1) (pc' := 379) dL_law_378 rfl rfl rfl ?_ | refine go_aloadX_n (i := 1) (pc' := 379) dL_law_378 rfl rfl rfl ?_ | refine go_aload_nN (i := 1) (pc' := 379) dL_law_378 rfl rfl rfl ?_
  refine go_invV (As := []) (pc' := 382) dL_law_379 rfl cf_L_law_25 rfl h0 rfl rfl (Nat.le_of_ble_eq_true rfl) (o2 _ hI ) (fun v1 h1 q1 => ?_)
  obtain ⟨x, F, rfl, hM, q2⟩ := q1
  first | refine go_aload_n (i := 2) (pc' := 383) dL_law_382 rfl rfl rfl ?_ | refine go_aloadX_n (i := 2) (pc' := 383) dL_law_382 rfl rfl rfl ?_ | refine go_aload_nN (i := 2) (pc' := 383) dL_law_382 rfl rfl rfl ?_
  refine go_invV (As := []) (pc' := 386) dL_law_383 rfl cf_L_law_29 rfl hM rfl rfl (Nat.le_of_ble_eq_true rfl) q2 (fun v2 h2 q3 => ?_)
  obtain ⟨rfl, hJ⟩ := q3
  refine go_icmp_eq (pc' := 389) (tgt := 805) dL_law_386 (by decide) rfl (fun c1 => ?_) (fun c1 => ?_)
  · exact k h2 hJ
  · exact absurd rfl c1
set_option maxRecDepth 100000 in
theorem law_wrong {G : xG} {I J : xH → Prop} {n : Nat} {h : xH} {P : Option Value → xH → Prop} (hn : 11 * n + 11 ≤ gN G) (hN : gN G ≤ 5632) (h0 : ∃ fs, h.2 0 = some (.inr (9, fs))) (hO : Ow G I J) (hI : I h) (k : ∀ h', J h' → Go G mL_law 805 [some (.retAddr 99), some (.ref 0), some (.ref 233), some (.int (nI (11 * n)))] [] h' P) : Go G mL_law 391 [some (.retAddr 99), some (.ref 0), some (.ref 233), some (.int (nI (11 * n)))] [] h P := by
  obtain ⟨o0, o1, o2, o3, o4, o5, o6, o7, o8, o9, o10, o11, o12, o13, o14, o15, o16, o17, o18, o19, o20⟩ := hO
  obtain ⟨fs, h0⟩ := h0
  first | refine go_aload_n (i := 1) (pc' := 392) dL_law_391 rfl rfl rfl ?_ | refine go_aloadX_n (i := 1) (pc' := 392) dL_law_391 rfl rfl rfl ?_ | refine go_aload_nN (i := 1) (pc' := 392) dL_law_391 rfl rfl rfl ?_
  refine go_invV (As := []) (pc' := 395) dL_law_392 rfl cf_L_law_30 rfl h0 rfl rfl (Nat.le_of_ble_eq_true rfl) (o3 _ hI ) (fun v1 h1 q1 => ?_)
  obtain ⟨x, F, rfl, hM, q2⟩ := q1
  first | refine go_aload_n (i := 2) (pc' := 396) dL_law_395 rfl rfl rfl ?_ | refine go_aloadX_n (i := 2) (pc' := 396) dL_law_395 rfl rfl rfl ?_ | refine go_aload_nN (i := 2) (pc' := 396) dL_law_395 rfl rfl rfl ?_
  refine go_invV (As := []) (pc' := 399) dL_law_396 rfl cf_L_law_33 rfl hM rfl rfl (Nat.le_of_ble_eq_true rfl) q2 (fun v2 h2 q3 => ?_)
  obtain ⟨rfl, hJ⟩ := q3
  refine go_icmp_eq (pc' := 402) (tgt := 805) dL_law_399 (by decide) rfl (fun c1 => ?_) (fun c1 => ?_)
  · exact k h2 hJ
  · exact absurd rfl c1
set_option maxRecDepth 100000 in
theorem law_outputs {G : xG} {I J : xH → Prop} {n : Nat} {h : xH} {P : Option Value → xH → Prop} (hn : 11 * n + 11 ≤ gN G) (hN : gN G ≤ 5632) (h0 : ∃ fs, h.2 0 = some (.inr (9, fs))) (hO : Ow G I J) (hI : I h) (k : ∀ h', J h' → Go G mL_law 805 [some (.retAddr 99), some (.ref 0), some (.ref 233), some (.int (nI (11 * n)))] [] h' P) : Go G mL_law 404 [some (.retAddr 99), some (.ref 0), some (.ref 233), some (.int (nI (11 * n)))] [] h P := by
  obtain ⟨o0, o1, o2, o3, o4, o5, o6, o7, o8, o9, o10, o11, o12, o13, o14, o15, o16, o17, o18, o19, o20⟩ := hO
  obtain ⟨fs, h0⟩ := h0
  first | refine go_aload_n (i := 1) (pc' := 405) dL_law_404 rfl rfl rfl ?_ | refine go_aloadX_n (i := 1) (pc' := 405) dL_law_404 rfl rfl rfl ?_ | refine go_aload_nN (i := 1) (pc' := 405) dL_law_404 rfl rfl rfl ?_
  refine go_invV (As := []) (pc' := 408) dL_law_405 rfl cf_L_law_34 rfl h0 rfl rfl (Nat.le_of_ble_eq_true rfl) (o4 _ hI ) (fun v1 h1 q1 => ?_)
  obtain ⟨x, F, rfl, hM, q2⟩ := q1
  first | refine go_aload_n (i := 2) (pc' := 409) dL_law_408 rfl rfl rfl ?_ | refine go_aloadX_n (i := 2) (pc' := 409) dL_law_408 rfl rfl rfl ?_ | refine go_aload_nN (i := 2) (pc' := 409) dL_law_408 rfl rfl rfl ?_
  refine go_invV (As := []) (pc' := 412) dL_law_409 rfl cf_L_law_37 rfl hM rfl rfl (Nat.le_of_ble_eq_true rfl) q2 (fun v2 h2 q3 => ?_)
  obtain ⟨rfl, hJ⟩ := q3
  refine go_icmp_eq (pc' := 415) (tgt := 805) dL_law_412 (by decide) rfl (fun c1 => ?_) (fun c1 => ?_)
  · exact k h2 hJ
  · exact absurd rfl c1
set_option maxRecDepth 100000 in
theorem law_out {G : xG} {I J : xH → Prop} {n : Nat} {h : xH} {P : Option Value → xH → Prop} (hn : 11 * n + 11 ≤ gN G) (hN : gN G ≤ 5632) (h0 : ∃ fs, h.2 0 = some (.inr (9, fs))) (hO : Ow G I J) (hI : I h) (k : ∀ h', J h' → Go G mL_law 805 [some (.retAddr 99), some (.ref 0), some (.ref 233), some (.int (nI (11 * n)))] [] h' P) : Go G mL_law 417 [some (.retAddr 99), some (.ref 0), some (.ref 233), some (.int (nI (11 * n)))] [] h P := by
  obtain ⟨o0, o1, o2, o3, o4, o5, o6, o7, o8, o9, o10, o11, o12, o13, o14, o15, o16, o17, o18, o19, o20⟩ := hO
  obtain ⟨fs, h0⟩ := h0
  first | refine go_aload_n (i := 1) (pc' := 418) dL_law_417 rfl rfl rfl ?_ | refine go_aloadX_n (i := 1) (pc' := 418) dL_law_417 rfl rfl rfl ?_ | refine go_aload_nN (i := 1) (pc' := 418) dL_law_417 rfl rfl rfl ?_
  first | refine go_aload_n (i := 0) (pc' := 419) dL_law_418 rfl rfl rfl ?_ | refine go_aloadX_n (i := 0) (pc' := 419) dL_law_418 rfl rfl rfl ?_ | refine go_aload_nN (i := 0) (pc' := 419) dL_law_418 rfl rfl rfl ?_
  refine go_iload_n (i := 3) (pc' := 420) dL_law_419 rfl rfl rfl ?_
  refine go_iconst (v := 1) (pc' := 421) dL_law_420 rfl (by decide) ?_
  refine go_iadd (pc' := 422) dL_law_421 rfl ?_
  refine go_sld (pc' := 423) (11 * n + 1) dL_law_422 rfl (nI_add (11 * n) 1) (by omega) (by omega) ?_
  refine go_invV (As := [_]) (pc' := 426) dL_law_423 rfl cf_L_law_38 rfl h0 rfl rfl (Nat.le_of_ble_eq_true rfl) (o5 _ hI _) (fun v1 h1 q1 => ?_)
  obtain ⟨x, F, rfl, hM, q2⟩ := q1
  first | refine go_aload_n (i := 2) (pc' := 427) dL_law_426 rfl rfl rfl ?_ | refine go_aloadX_n (i := 2) (pc' := 427) dL_law_426 rfl rfl rfl ?_ | refine go_aload_nN (i := 2) (pc' := 427) dL_law_426 rfl rfl rfl ?_
  first | refine go_aload_n (i := 0) (pc' := 428) dL_law_427 rfl rfl rfl ?_ | refine go_aloadX_n (i := 0) (pc' := 428) dL_law_427 rfl rfl rfl ?_ | refine go_aload_nN (i := 0) (pc' := 428) dL_law_427 rfl rfl rfl ?_
  refine go_iload_n (i := 3) (pc' := 429) dL_law_428 rfl rfl rfl ?_
  refine go_iconst (v := 1) (pc' := 430) dL_law_429 rfl (by decide) ?_
  refine go_iadd (pc' := 431) dL_law_430 rfl ?_
  refine go_sld (pc' := 432) (11 * n + 1) dL_law_431 rfl (nI_add (11 * n) 1) (by omega) (by omega) ?_
  refine go_invV (As := [_]) (pc' := 435) dL_law_432 rfl cf_L_law_41 rfl hM rfl rfl (Nat.le_of_ble_eq_true rfl) q2 (fun v2 h2 q3 => ?_)
  obtain ⟨rfl, hJ⟩ := q3
  refine go_icmp_eq (pc' := 438) (tgt := 805) dL_law_435 (by decide) rfl (fun c1 => ?_) (fun c1 => ?_)
  · exact k h2 hJ
  · exact absurd rfl c1
set_option maxRecDepth 100000 in
theorem law_crash {G : xG} {I J : xH → Prop} {n : Nat} {h : xH} {P : Option Value → xH → Prop} (hn : 11 * n + 11 ≤ gN G) (hN : gN G ≤ 5632) (h0 : ∃ fs, h.2 0 = some (.inr (9, fs))) (hO : Ow G I J) (hI : I h) (k : ∀ h', J h' → Go G mL_law 805 [some (.retAddr 99), some (.ref 0), some (.ref 233), some (.int (nI (11 * n)))] [] h' P) : Go G mL_law 440 [some (.retAddr 99), some (.ref 0), some (.ref 233), some (.int (nI (11 * n)))] [] h P := by
  obtain ⟨o0, o1, o2, o3, o4, o5, o6, o7, o8, o9, o10, o11, o12, o13, o14, o15, o16, o17, o18, o19, o20⟩ := hO
  obtain ⟨fs, h0⟩ := h0
  first | refine go_aload_n (i := 1) (pc' := 441) dL_law_440 rfl rfl rfl ?_ | refine go_aloadX_n (i := 1) (pc' := 441) dL_law_440 rfl rfl rfl ?_ | refine go_aload_nN (i := 1) (pc' := 441) dL_law_440 rfl rfl rfl ?_
  first | refine go_aload_n (i := 0) (pc' := 442) dL_law_441 rfl rfl rfl ?_ | refine go_aloadX_n (i := 0) (pc' := 442) dL_law_441 rfl rfl rfl ?_ | refine go_aload_nN (i := 0) (pc' := 442) dL_law_441 rfl rfl rfl ?_
  refine go_iload_n (i := 3) (pc' := 443) dL_law_442 rfl rfl rfl ?_
  refine go_iconst (v := 1) (pc' := 444) dL_law_443 rfl (by decide) ?_
  refine go_iadd (pc' := 445) dL_law_444 rfl ?_
  refine go_sld (pc' := 446) (11 * n + 1) dL_law_445 rfl (nI_add (11 * n) 1) (by omega) (by omega) ?_
  first | refine go_aload_n (i := 0) (pc' := 447) dL_law_446 rfl rfl rfl ?_ | refine go_aloadX_n (i := 0) (pc' := 447) dL_law_446 rfl rfl rfl ?_ | refine go_aload_nN (i := 0) (pc' := 447) dL_law_446 rfl rfl rfl ?_
  refine go_iload_n (i := 3) (pc' := 448) dL_law_447 rfl rfl rfl ?_
  refine go_iconst (v := 2) (pc' := 449) dL_law_448 rfl (by decide) ?_
  refine go_iadd (pc' := 450) dL_law_449 rfl ?_
  refine go_sld (pc' := 451) (11 * n + 2) dL_law_450 rfl (nI_add (11 * n) 2) (by omega) (by omega) ?_
  first | refine go_aload_n (i := 0) (pc' := 452) dL_law_451 rfl rfl rfl ?_ | refine go_aloadX_n (i := 0) (pc' := 452) dL_law_451 rfl rfl rfl ?_ | refine go_aload_nN (i := 0) (pc' := 452) dL_law_451 rfl rfl rfl ?_
  refine go_iload_n (i := 3) (pc' := 453) dL_law_452 rfl rfl rfl ?_
  refine go_iconst (v := 3) (pc' := 454) dL_law_453 rfl (by decide) ?_
  refine go_iadd (pc' := 455) dL_law_454 rfl ?_
  refine go_sld (pc' := 456) (11 * n + 3) dL_law_455 rfl (nI_add (11 * n) 3) (by omega) (by omega) ?_
  refine go_invV (As := [_, _, _]) (pc' := 459) dL_law_456 rfl cf_L_law_42 rfl h0 rfl rfl (Nat.le_of_ble_eq_true rfl) (o6 _ hI _ _ _) (fun v1 h1 q1 => ?_)
  obtain ⟨x, F, rfl, hM, q2⟩ := q1
  first | refine go_aload_n (i := 2) (pc' := 460) dL_law_459 rfl rfl rfl ?_ | refine go_aloadX_n (i := 2) (pc' := 460) dL_law_459 rfl rfl rfl ?_ | refine go_aload_nN (i := 2) (pc' := 460) dL_law_459 rfl rfl rfl ?_
  first | refine go_aload_n (i := 0) (pc' := 461) dL_law_460 rfl rfl rfl ?_ | refine go_aloadX_n (i := 0) (pc' := 461) dL_law_460 rfl rfl rfl ?_ | refine go_aload_nN (i := 0) (pc' := 461) dL_law_460 rfl rfl rfl ?_
  refine go_iload_n (i := 3) (pc' := 462) dL_law_461 rfl rfl rfl ?_
  refine go_iconst (v := 1) (pc' := 463) dL_law_462 rfl (by decide) ?_
  refine go_iadd (pc' := 464) dL_law_463 rfl ?_
  refine go_sld (pc' := 465) (11 * n + 1) dL_law_464 rfl (nI_add (11 * n) 1) (by omega) (by omega) ?_
  first | refine go_aload_n (i := 0) (pc' := 466) dL_law_465 rfl rfl rfl ?_ | refine go_aloadX_n (i := 0) (pc' := 466) dL_law_465 rfl rfl rfl ?_ | refine go_aload_nN (i := 0) (pc' := 466) dL_law_465 rfl rfl rfl ?_
  refine go_iload_n (i := 3) (pc' := 467) dL_law_466 rfl rfl rfl ?_
  refine go_iconst (v := 2) (pc' := 468) dL_law_467 rfl (by decide) ?_
  refine go_iadd (pc' := 469) dL_law_468 rfl ?_
  refine go_sld (pc' := 470) (11 * n + 2) dL_law_469 rfl (nI_add (11 * n) 2) (by omega) (by omega) ?_
  first | refine go_aload_n (i := 0) (pc' := 471) dL_law_470 rfl rfl rfl ?_ | refine go_aloadX_n (i := 0) (pc' := 471) dL_law_470 rfl rfl rfl ?_ | refine go_aload_nN (i := 0) (pc' := 471) dL_law_470 rfl rfl rfl ?_
  refine go_iload_n (i := 3) (pc' := 472) dL_law_471 rfl rfl rfl ?_
  refine go_iconst (v := 3) (pc' := 473) dL_law_472 rfl (by decide) ?_
  refine go_iadd (pc' := 474) dL_law_473 rfl ?_
  refine go_sld (pc' := 475) (11 * n + 3) dL_law_474 rfl (nI_add (11 * n) 3) (by omega) (by omega) ?_
  refine go_invV (As := [_, _, _]) (pc' := 478) dL_law_475 rfl cf_L_law_46 rfl hM rfl rfl (Nat.le_of_ble_eq_true rfl) q2 (fun v2 h2 q3 => ?_)
  obtain ⟨rfl, hJ⟩ := q3
  refine go_icmp_eq (pc' := 481) (tgt := 805) dL_law_478 (by decide) rfl (fun c1 => ?_) (fun c1 => ?_)
  · exact k h2 hJ
  · exact absurd rfl c1
set_option maxRecDepth 100000 in
theorem law_recover {G : xG} {I J : xH → Prop} {n : Nat} {h : xH} {P : Option Value → xH → Prop} (hn : 11 * n + 11 ≤ gN G) (hN : gN G ≤ 5632) (h0 : ∃ fs, h.2 0 = some (.inr (9, fs))) (hO : Ow G I J) (hI : I h) (k : ∀ h', J h' → Go G mL_law 805 [some (.retAddr 99), some (.ref 0), some (.ref 233), some (.int (nI (11 * n)))] [] h' P) : Go G mL_law 483 [some (.retAddr 99), some (.ref 0), some (.ref 233), some (.int (nI (11 * n)))] [] h P := by
  obtain ⟨o0, o1, o2, o3, o4, o5, o6, o7, o8, o9, o10, o11, o12, o13, o14, o15, o16, o17, o18, o19, o20⟩ := hO
  obtain ⟨fs, h0⟩ := h0
  first | refine go_aload_n (i := 1) (pc' := 484) dL_law_483 rfl rfl rfl ?_ | refine go_aloadX_n (i := 1) (pc' := 484) dL_law_483 rfl rfl rfl ?_ | refine go_aload_nN (i := 1) (pc' := 484) dL_law_483 rfl rfl rfl ?_
  refine go_invV (As := []) (pc' := 487) dL_law_484 rfl cf_L_law_47 rfl h0 rfl rfl (Nat.le_of_ble_eq_true rfl) (o7 _ hI ) (fun v1 h1 q1 => ?_)
  obtain ⟨x, F, rfl, hM, q2⟩ := q1
  first | refine go_aload_n (i := 2) (pc' := 488) dL_law_487 rfl rfl rfl ?_ | refine go_aloadX_n (i := 2) (pc' := 488) dL_law_487 rfl rfl rfl ?_ | refine go_aload_nN (i := 2) (pc' := 488) dL_law_487 rfl rfl rfl ?_
  refine go_invV (As := []) (pc' := 491) dL_law_488 rfl cf_L_law_50 rfl hM rfl rfl (Nat.le_of_ble_eq_true rfl) q2 (fun v2 h2 q3 => ?_)
  obtain ⟨rfl, hJ⟩ := q3
  refine go_icmp_eq (pc' := 494) (tgt := 805) dL_law_491 (by decide) rfl (fun c1 => ?_) (fun c1 => ?_)
  · exact k h2 hJ
  · exact absurd rfl c1
set_option maxRecDepth 100000 in
theorem law_isDown {G : xG} {I J : xH → Prop} {n : Nat} {h : xH} {P : Option Value → xH → Prop} (hn : 11 * n + 11 ≤ gN G) (hN : gN G ≤ 5632) (h0 : ∃ fs, h.2 0 = some (.inr (9, fs))) (hO : Ow G I J) (hI : I h) (k : ∀ h', J h' → Go G mL_law 805 [some (.retAddr 99), some (.ref 0), some (.ref 233), some (.int (nI (11 * n)))] [] h' P) : Go G mL_law 496 [some (.retAddr 99), some (.ref 0), some (.ref 233), some (.int (nI (11 * n)))] [] h P := by
  obtain ⟨o0, o1, o2, o3, o4, o5, o6, o7, o8, o9, o10, o11, o12, o13, o14, o15, o16, o17, o18, o19, o20⟩ := hO
  obtain ⟨fs, h0⟩ := h0
  first | refine go_aload_n (i := 1) (pc' := 497) dL_law_496 rfl rfl rfl ?_ | refine go_aloadX_n (i := 1) (pc' := 497) dL_law_496 rfl rfl rfl ?_ | refine go_aload_nN (i := 1) (pc' := 497) dL_law_496 rfl rfl rfl ?_
  refine go_invV (As := []) (pc' := 500) dL_law_497 rfl cf_L_law_51 rfl h0 rfl rfl (Nat.le_of_ble_eq_true rfl) (o8 _ hI ) (fun v1 h1 q1 => ?_)
  obtain ⟨x, F, rfl, hM, q2⟩ := q1
  first | refine go_aload_n (i := 2) (pc' := 501) dL_law_500 rfl rfl rfl ?_ | refine go_aloadX_n (i := 2) (pc' := 501) dL_law_500 rfl rfl rfl ?_ | refine go_aload_nN (i := 2) (pc' := 501) dL_law_500 rfl rfl rfl ?_
  refine go_invV (As := []) (pc' := 504) dL_law_501 rfl cf_L_law_55 rfl hM rfl rfl (Nat.le_of_ble_eq_true rfl) q2 (fun v2 h2 q3 => ?_)
  obtain ⟨rfl, hJ⟩ := q3
  refine go_icmp_eq (pc' := 507) (tgt := 805) dL_law_504 (by decide) rfl (fun c1 => ?_) (fun c1 => ?_)
  · exact k h2 hJ
  · exact absurd rfl c1
set_option maxRecDepth 100000 in
theorem law_isOpen {G : xG} {I J : xH → Prop} {n : Nat} {h : xH} {P : Option Value → xH → Prop} (hn : 11 * n + 11 ≤ gN G) (hN : gN G ≤ 5632) (h0 : ∃ fs, h.2 0 = some (.inr (9, fs))) (hO : Ow G I J) (hI : I h) (k : ∀ h', J h' → Go G mL_law 805 [some (.retAddr 99), some (.ref 0), some (.ref 233), some (.int (nI (11 * n)))] [] h' P) : Go G mL_law 509 [some (.retAddr 99), some (.ref 0), some (.ref 233), some (.int (nI (11 * n)))] [] h P := by
  obtain ⟨o0, o1, o2, o3, o4, o5, o6, o7, o8, o9, o10, o11, o12, o13, o14, o15, o16, o17, o18, o19, o20⟩ := hO
  obtain ⟨fs, h0⟩ := h0
  first | refine go_aload_n (i := 1) (pc' := 510) dL_law_509 rfl rfl rfl ?_ | refine go_aloadX_n (i := 1) (pc' := 510) dL_law_509 rfl rfl rfl ?_ | refine go_aload_nN (i := 1) (pc' := 510) dL_law_509 rfl rfl rfl ?_
  refine go_invV (As := []) (pc' := 513) dL_law_510 rfl cf_L_law_56 rfl h0 rfl rfl (Nat.le_of_ble_eq_true rfl) (o9 _ hI ) (fun v1 h1 q1 => ?_)
  obtain ⟨x, F, rfl, hM, q2⟩ := q1
  first | refine go_aload_n (i := 2) (pc' := 514) dL_law_513 rfl rfl rfl ?_ | refine go_aloadX_n (i := 2) (pc' := 514) dL_law_513 rfl rfl rfl ?_ | refine go_aload_nN (i := 2) (pc' := 514) dL_law_513 rfl rfl rfl ?_
  refine go_invV (As := []) (pc' := 517) dL_law_514 rfl cf_L_law_59 rfl hM rfl rfl (Nat.le_of_ble_eq_true rfl) q2 (fun v2 h2 q3 => ?_)
  obtain ⟨rfl, hJ⟩ := q3
  refine go_icmp_eq (pc' := 520) (tgt := 805) dL_law_517 (by decide) rfl (fun c1 => ?_) (fun c1 => ?_)
  · exact k h2 hJ
  · exact absurd rfl c1
set_option maxRecDepth 100000 in
theorem law_live {G : xG} {I J : xH → Prop} {n : Nat} {h : xH} {P : Option Value → xH → Prop} (hn : 11 * n + 11 ≤ gN G) (hN : gN G ≤ 5632) (h0 : ∃ fs, h.2 0 = some (.inr (9, fs))) (hO : Ow G I J) (hI : I h) (k : ∀ h', J h' → Go G mL_law 805 [some (.retAddr 99), some (.ref 0), some (.ref 233), some (.int (nI (11 * n)))] [] h' P) : Go G mL_law 522 [some (.retAddr 99), some (.ref 0), some (.ref 233), some (.int (nI (11 * n)))] [] h P := by
  obtain ⟨o0, o1, o2, o3, o4, o5, o6, o7, o8, o9, o10, o11, o12, o13, o14, o15, o16, o17, o18, o19, o20⟩ := hO
  obtain ⟨fs, h0⟩ := h0
  first | refine go_aload_n (i := 1) (pc' := 523) dL_law_522 rfl rfl rfl ?_ | refine go_aloadX_n (i := 1) (pc' := 523) dL_law_522 rfl rfl rfl ?_ | refine go_aload_nN (i := 1) (pc' := 523) dL_law_522 rfl rfl rfl ?_
  refine go_invV (As := []) (pc' := 526) dL_law_523 rfl cf_L_law_60 rfl h0 rfl rfl (Nat.le_of_ble_eq_true rfl) (o10 _ hI ) (fun v1 h1 q1 => ?_)
  obtain ⟨x, F, rfl, hM, q2⟩ := q1
  first | refine go_aload_n (i := 2) (pc' := 527) dL_law_526 rfl rfl rfl ?_ | refine go_aloadX_n (i := 2) (pc' := 527) dL_law_526 rfl rfl rfl ?_ | refine go_aload_nN (i := 2) (pc' := 527) dL_law_526 rfl rfl rfl ?_
  refine go_invV (As := []) (pc' := 530) dL_law_527 rfl cf_L_law_63 rfl hM rfl rfl (Nat.le_of_ble_eq_true rfl) q2 (fun v2 h2 q3 => ?_)
  obtain ⟨rfl, hJ⟩ := q3
  refine go_icmp_eq (pc' := 533) (tgt := 805) dL_law_530 (by decide) rfl (fun c1 => ?_) (fun c1 => ?_)
  · exact k h2 hJ
  · exact absurd rfl c1
set_option maxRecDepth 100000 in
theorem law_idAt {G : xG} {I J : xH → Prop} {n : Nat} {h : xH} {P : Option Value → xH → Prop} (hn : 11 * n + 11 ≤ gN G) (hN : gN G ≤ 5632) (h0 : ∃ fs, h.2 0 = some (.inr (9, fs))) (hO : Ow G I J) (hI : I h) (k : ∀ h', J h' → Go G mL_law 805 [some (.retAddr 99), some (.ref 0), some (.ref 233), some (.int (nI (11 * n)))] [] h' P) : Go G mL_law 535 [some (.retAddr 99), some (.ref 0), some (.ref 233), some (.int (nI (11 * n)))] [] h P := by
  obtain ⟨o0, o1, o2, o3, o4, o5, o6, o7, o8, o9, o10, o11, o12, o13, o14, o15, o16, o17, o18, o19, o20⟩ := hO
  obtain ⟨fs, h0⟩ := h0
  first | refine go_aload_n (i := 1) (pc' := 536) dL_law_535 rfl rfl rfl ?_ | refine go_aloadX_n (i := 1) (pc' := 536) dL_law_535 rfl rfl rfl ?_ | refine go_aload_nN (i := 1) (pc' := 536) dL_law_535 rfl rfl rfl ?_
  first | refine go_aload_n (i := 0) (pc' := 537) dL_law_536 rfl rfl rfl ?_ | refine go_aloadX_n (i := 0) (pc' := 537) dL_law_536 rfl rfl rfl ?_ | refine go_aload_nN (i := 0) (pc' := 537) dL_law_536 rfl rfl rfl ?_
  refine go_iload_n (i := 3) (pc' := 538) dL_law_537 rfl rfl rfl ?_
  refine go_iconst (v := 1) (pc' := 539) dL_law_538 rfl (by decide) ?_
  refine go_iadd (pc' := 540) dL_law_539 rfl ?_
  refine go_sld (pc' := 541) (11 * n + 1) dL_law_540 rfl (nI_add (11 * n) 1) (by omega) (by omega) ?_
  refine go_invV (As := [_]) (pc' := 544) dL_law_541 rfl cf_L_law_64 rfl h0 rfl rfl (Nat.le_of_ble_eq_true rfl) (o11 _ hI _) (fun v1 h1 q1 => ?_)
  obtain ⟨x, F, rfl, hM, q2⟩ := q1
  first | refine go_aload_n (i := 2) (pc' := 545) dL_law_544 rfl rfl rfl ?_ | refine go_aloadX_n (i := 2) (pc' := 545) dL_law_544 rfl rfl rfl ?_ | refine go_aload_nN (i := 2) (pc' := 545) dL_law_544 rfl rfl rfl ?_
  first | refine go_aload_n (i := 0) (pc' := 546) dL_law_545 rfl rfl rfl ?_ | refine go_aloadX_n (i := 0) (pc' := 546) dL_law_545 rfl rfl rfl ?_ | refine go_aload_nN (i := 0) (pc' := 546) dL_law_545 rfl rfl rfl ?_
  refine go_iload_n (i := 3) (pc' := 547) dL_law_546 rfl rfl rfl ?_
  refine go_iconst (v := 1) (pc' := 548) dL_law_547 rfl (by decide) ?_
  refine go_iadd (pc' := 549) dL_law_548 rfl ?_
  refine go_sld (pc' := 550) (11 * n + 1) dL_law_549 rfl (nI_add (11 * n) 1) (by omega) (by omega) ?_
  refine go_invV (As := [_]) (pc' := 553) dL_law_550 rfl cf_L_law_67 rfl hM rfl rfl (Nat.le_of_ble_eq_true rfl) q2 (fun v2 h2 q3 => ?_)
  obtain ⟨rfl, hJ⟩ := q3
  refine go_icmp_eq (pc' := 556) (tgt := 805) dL_law_553 (by decide) rfl (fun c1 => ?_) (fun c1 => ?_)
  · exact k h2 hJ
  · exact absurd rfl c1
set_option maxRecDepth 100000 in
theorem law_kindOf {G : xG} {I J : xH → Prop} {n : Nat} {h : xH} {P : Option Value → xH → Prop} (hn : 11 * n + 11 ≤ gN G) (hN : gN G ≤ 5632) (h0 : ∃ fs, h.2 0 = some (.inr (9, fs))) (hO : Ow G I J) (hI : I h) (k : ∀ h', J h' → Go G mL_law 805 [some (.retAddr 99), some (.ref 0), some (.ref 233), some (.int (nI (11 * n)))] [] h' P) : Go G mL_law 558 [some (.retAddr 99), some (.ref 0), some (.ref 233), some (.int (nI (11 * n)))] [] h P := by
  obtain ⟨o0, o1, o2, o3, o4, o5, o6, o7, o8, o9, o10, o11, o12, o13, o14, o15, o16, o17, o18, o19, o20⟩ := hO
  obtain ⟨fs, h0⟩ := h0
  first | refine go_aload_n (i := 1) (pc' := 559) dL_law_558 rfl rfl rfl ?_ | refine go_aloadX_n (i := 1) (pc' := 559) dL_law_558 rfl rfl rfl ?_ | refine go_aload_nN (i := 1) (pc' := 559) dL_law_558 rfl rfl rfl ?_
  first | refine go_aload_n (i := 0) (pc' := 560) dL_law_559 rfl rfl rfl ?_ | refine go_aloadX_n (i := 0) (pc' := 560) dL_law_559 rfl rfl rfl ?_ | refine go_aload_nN (i := 0) (pc' := 560) dL_law_559 rfl rfl rfl ?_
  refine go_iload_n (i := 3) (pc' := 561) dL_law_560 rfl rfl rfl ?_
  refine go_iconst (v := 1) (pc' := 562) dL_law_561 rfl (by decide) ?_
  refine go_iadd (pc' := 563) dL_law_562 rfl ?_
  refine go_sld (pc' := 564) (11 * n + 1) dL_law_563 rfl (nI_add (11 * n) 1) (by omega) (by omega) ?_
  refine go_invV (As := [_]) (pc' := 567) dL_law_564 rfl cf_L_law_68 rfl h0 rfl rfl (Nat.le_of_ble_eq_true rfl) (o12 _ hI _) (fun v1 h1 q1 => ?_)
  obtain ⟨x, F, rfl, hM, q2⟩ := q1
  first | refine go_aload_n (i := 2) (pc' := 568) dL_law_567 rfl rfl rfl ?_ | refine go_aloadX_n (i := 2) (pc' := 568) dL_law_567 rfl rfl rfl ?_ | refine go_aload_nN (i := 2) (pc' := 568) dL_law_567 rfl rfl rfl ?_
  first | refine go_aload_n (i := 0) (pc' := 569) dL_law_568 rfl rfl rfl ?_ | refine go_aloadX_n (i := 0) (pc' := 569) dL_law_568 rfl rfl rfl ?_ | refine go_aload_nN (i := 0) (pc' := 569) dL_law_568 rfl rfl rfl ?_
  refine go_iload_n (i := 3) (pc' := 570) dL_law_569 rfl rfl rfl ?_
  refine go_iconst (v := 1) (pc' := 571) dL_law_570 rfl (by decide) ?_
  refine go_iadd (pc' := 572) dL_law_571 rfl ?_
  refine go_sld (pc' := 573) (11 * n + 1) dL_law_572 rfl (nI_add (11 * n) 1) (by omega) (by omega) ?_
  refine go_invV (As := [_]) (pc' := 576) dL_law_573 rfl cf_L_law_71 rfl hM rfl rfl (Nat.le_of_ble_eq_true rfl) q2 (fun v2 h2 q3 => ?_)
  obtain ⟨rfl, hJ⟩ := q3
  refine go_icmp_eq (pc' := 579) (tgt := 805) dL_law_576 (by decide) rfl (fun c1 => ?_) (fun c1 => ?_)
  · exact k h2 hJ
  · exact absurd rfl c1
set_option maxRecDepth 100000 in
theorem law_places {G : xG} {I J : xH → Prop} {n : Nat} {h : xH} {P : Option Value → xH → Prop} (hn : 11 * n + 11 ≤ gN G) (hN : gN G ≤ 5632) (h0 : ∃ fs, h.2 0 = some (.inr (9, fs))) (hO : Ow G I J) (hI : I h) (k : ∀ h', J h' → Go G mL_law 805 [some (.retAddr 99), some (.ref 0), some (.ref 233), some (.int (nI (11 * n)))] [] h' P) : Go G mL_law 581 [some (.retAddr 99), some (.ref 0), some (.ref 233), some (.int (nI (11 * n)))] [] h P := by
  obtain ⟨o0, o1, o2, o3, o4, o5, o6, o7, o8, o9, o10, o11, o12, o13, o14, o15, o16, o17, o18, o19, o20⟩ := hO
  obtain ⟨fs, h0⟩ := h0
  first | refine go_aload_n (i := 1) (pc' := 582) dL_law_581 rfl rfl rfl ?_ | refine go_aloadX_n (i := 1) (pc' := 582) dL_law_581 rfl rfl rfl ?_ | refine go_aload_nN (i := 1) (pc' := 582) dL_law_581 rfl rfl rfl ?_
  first | refine go_aload_n (i := 0) (pc' := 583) dL_law_582 rfl rfl rfl ?_ | refine go_aloadX_n (i := 0) (pc' := 583) dL_law_582 rfl rfl rfl ?_ | refine go_aload_nN (i := 0) (pc' := 583) dL_law_582 rfl rfl rfl ?_
  refine go_iload_n (i := 3) (pc' := 584) dL_law_583 rfl rfl rfl ?_
  refine go_iconst (v := 1) (pc' := 585) dL_law_584 rfl (by decide) ?_
  refine go_iadd (pc' := 586) dL_law_585 rfl ?_
  refine go_sld (pc' := 587) (11 * n + 1) dL_law_586 rfl (nI_add (11 * n) 1) (by omega) (by omega) ?_
  refine go_invV (As := [_]) (pc' := 590) dL_law_587 rfl cf_L_law_72 rfl h0 rfl rfl (Nat.le_of_ble_eq_true rfl) (o13 _ hI _) (fun v1 h1 q1 => ?_)
  obtain ⟨x, F, rfl, hM, q2⟩ := q1
  first | refine go_aload_n (i := 2) (pc' := 591) dL_law_590 rfl rfl rfl ?_ | refine go_aloadX_n (i := 2) (pc' := 591) dL_law_590 rfl rfl rfl ?_ | refine go_aload_nN (i := 2) (pc' := 591) dL_law_590 rfl rfl rfl ?_
  first | refine go_aload_n (i := 0) (pc' := 592) dL_law_591 rfl rfl rfl ?_ | refine go_aloadX_n (i := 0) (pc' := 592) dL_law_591 rfl rfl rfl ?_ | refine go_aload_nN (i := 0) (pc' := 592) dL_law_591 rfl rfl rfl ?_
  refine go_iload_n (i := 3) (pc' := 593) dL_law_592 rfl rfl rfl ?_
  refine go_iconst (v := 1) (pc' := 594) dL_law_593 rfl (by decide) ?_
  refine go_iadd (pc' := 595) dL_law_594 rfl ?_
  refine go_sld (pc' := 596) (11 * n + 1) dL_law_595 rfl (nI_add (11 * n) 1) (by omega) (by omega) ?_
  refine go_invV (As := [_]) (pc' := 599) dL_law_596 rfl cf_L_law_75 rfl hM rfl rfl (Nat.le_of_ble_eq_true rfl) q2 (fun v2 h2 q3 => ?_)
  obtain ⟨rfl, hJ⟩ := q3
  refine go_icmp_eq (pc' := 602) (tgt := 805) dL_law_599 (by decide) rfl (fun c1 => ?_) (fun c1 => ?_)
  · exact k h2 hJ
  · exact absurd rfl c1
set_option maxRecDepth 100000 in
theorem law_rings {G : xG} {I J : xH → Prop} {n : Nat} {h : xH} {P : Option Value → xH → Prop} (hn : 11 * n + 11 ≤ gN G) (hN : gN G ≤ 5632) (h0 : ∃ fs, h.2 0 = some (.inr (9, fs))) (hO : Ow G I J) (hI : I h) (k : ∀ h', J h' → Go G mL_law 805 [some (.retAddr 99), some (.ref 0), some (.ref 233), some (.int (nI (11 * n)))] [] h' P) : Go G mL_law 604 [some (.retAddr 99), some (.ref 0), some (.ref 233), some (.int (nI (11 * n)))] [] h P := by
  obtain ⟨o0, o1, o2, o3, o4, o5, o6, o7, o8, o9, o10, o11, o12, o13, o14, o15, o16, o17, o18, o19, o20⟩ := hO
  obtain ⟨fs, h0⟩ := h0
  first | refine go_aload_n (i := 1) (pc' := 605) dL_law_604 rfl rfl rfl ?_ | refine go_aloadX_n (i := 1) (pc' := 605) dL_law_604 rfl rfl rfl ?_ | refine go_aload_nN (i := 1) (pc' := 605) dL_law_604 rfl rfl rfl ?_
  first | refine go_aload_n (i := 0) (pc' := 606) dL_law_605 rfl rfl rfl ?_ | refine go_aloadX_n (i := 0) (pc' := 606) dL_law_605 rfl rfl rfl ?_ | refine go_aload_nN (i := 0) (pc' := 606) dL_law_605 rfl rfl rfl ?_
  refine go_iload_n (i := 3) (pc' := 607) dL_law_606 rfl rfl rfl ?_
  refine go_iconst (v := 1) (pc' := 608) dL_law_607 rfl (by decide) ?_
  refine go_iadd (pc' := 609) dL_law_608 rfl ?_
  refine go_sld (pc' := 610) (11 * n + 1) dL_law_609 rfl (nI_add (11 * n) 1) (by omega) (by omega) ?_
  refine go_invV (As := [_]) (pc' := 613) dL_law_610 rfl cf_L_law_76 rfl h0 rfl rfl (Nat.le_of_ble_eq_true rfl) (o14 _ hI _) (fun v1 h1 q1 => ?_)
  obtain ⟨x, F, rfl, hM, q2⟩ := q1
  first | refine go_aload_n (i := 2) (pc' := 614) dL_law_613 rfl rfl rfl ?_ | refine go_aloadX_n (i := 2) (pc' := 614) dL_law_613 rfl rfl rfl ?_ | refine go_aload_nN (i := 2) (pc' := 614) dL_law_613 rfl rfl rfl ?_
  first | refine go_aload_n (i := 0) (pc' := 615) dL_law_614 rfl rfl rfl ?_ | refine go_aloadX_n (i := 0) (pc' := 615) dL_law_614 rfl rfl rfl ?_ | refine go_aload_nN (i := 0) (pc' := 615) dL_law_614 rfl rfl rfl ?_
  refine go_iload_n (i := 3) (pc' := 616) dL_law_615 rfl rfl rfl ?_
  refine go_iconst (v := 1) (pc' := 617) dL_law_616 rfl (by decide) ?_
  refine go_iadd (pc' := 618) dL_law_617 rfl ?_
  refine go_sld (pc' := 619) (11 * n + 1) dL_law_618 rfl (nI_add (11 * n) 1) (by omega) (by omega) ?_
  refine go_invV (As := [_]) (pc' := 622) dL_law_619 rfl cf_L_law_79 rfl hM rfl rfl (Nat.le_of_ble_eq_true rfl) q2 (fun v2 h2 q3 => ?_)
  obtain ⟨rfl, hJ⟩ := q3
  refine go_icmp_eq (pc' := 625) (tgt := 805) dL_law_622 (by decide) rfl (fun c1 => ?_) (fun c1 => ?_)
  · exact k h2 hJ
  · exact absurd rfl c1
set_option maxRecDepth 100000 in
theorem law_at {G : xG} {I J : xH → Prop} {n : Nat} {h : xH} {P : Option Value → xH → Prop} (hn : 11 * n + 11 ≤ gN G) (hN : gN G ≤ 5632) (h0 : ∃ fs, h.2 0 = some (.inr (9, fs))) (hO : Ow G I J) (hI : I h) (k : ∀ h', J h' → Go G mL_law 805 [some (.retAddr 99), some (.ref 0), some (.ref 233), some (.int (nI (11 * n)))] [] h' P) : Go G mL_law 627 [some (.retAddr 99), some (.ref 0), some (.ref 233), some (.int (nI (11 * n)))] [] h P := by
  obtain ⟨o0, o1, o2, o3, o4, o5, o6, o7, o8, o9, o10, o11, o12, o13, o14, o15, o16, o17, o18, o19, o20⟩ := hO
  obtain ⟨fs, h0⟩ := h0
  first | refine go_aload_n (i := 1) (pc' := 628) dL_law_627 rfl rfl rfl ?_ | refine go_aloadX_n (i := 1) (pc' := 628) dL_law_627 rfl rfl rfl ?_ | refine go_aload_nN (i := 1) (pc' := 628) dL_law_627 rfl rfl rfl ?_
  first | refine go_aload_n (i := 0) (pc' := 629) dL_law_628 rfl rfl rfl ?_ | refine go_aloadX_n (i := 0) (pc' := 629) dL_law_628 rfl rfl rfl ?_ | refine go_aload_nN (i := 0) (pc' := 629) dL_law_628 rfl rfl rfl ?_
  refine go_iload_n (i := 3) (pc' := 630) dL_law_629 rfl rfl rfl ?_
  refine go_iconst (v := 1) (pc' := 631) dL_law_630 rfl (by decide) ?_
  refine go_iadd (pc' := 632) dL_law_631 rfl ?_
  refine go_sld (pc' := 633) (11 * n + 1) dL_law_632 rfl (nI_add (11 * n) 1) (by omega) (by omega) ?_
  first | refine go_aload_n (i := 0) (pc' := 634) dL_law_633 rfl rfl rfl ?_ | refine go_aloadX_n (i := 0) (pc' := 634) dL_law_633 rfl rfl rfl ?_ | refine go_aload_nN (i := 0) (pc' := 634) dL_law_633 rfl rfl rfl ?_
  refine go_iload_n (i := 3) (pc' := 635) dL_law_634 rfl rfl rfl ?_
  refine go_iconst (v := 2) (pc' := 636) dL_law_635 rfl (by decide) ?_
  refine go_iadd (pc' := 637) dL_law_636 rfl ?_
  refine go_sld (pc' := 638) (11 * n + 2) dL_law_637 rfl (nI_add (11 * n) 2) (by omega) (by omega) ?_
  first | refine go_aload_n (i := 0) (pc' := 639) dL_law_638 rfl rfl rfl ?_ | refine go_aloadX_n (i := 0) (pc' := 639) dL_law_638 rfl rfl rfl ?_ | refine go_aload_nN (i := 0) (pc' := 639) dL_law_638 rfl rfl rfl ?_
  refine go_iload_n (i := 3) (pc' := 640) dL_law_639 rfl rfl rfl ?_
  refine go_iconst (v := 3) (pc' := 641) dL_law_640 rfl (by decide) ?_
  refine go_iadd (pc' := 642) dL_law_641 rfl ?_
  refine go_sld (pc' := 643) (11 * n + 3) dL_law_642 rfl (nI_add (11 * n) 3) (by omega) (by omega) ?_
  refine go_invV (As := [_, _, _]) (pc' := 646) dL_law_643 rfl cf_L_law_80 rfl h0 rfl rfl (Nat.le_of_ble_eq_true rfl) (o15 _ hI _ _ _) (fun v1 h1 q1 => ?_)
  obtain ⟨x, F, rfl, hM, q2⟩ := q1
  first | refine go_aload_n (i := 2) (pc' := 647) dL_law_646 rfl rfl rfl ?_ | refine go_aloadX_n (i := 2) (pc' := 647) dL_law_646 rfl rfl rfl ?_ | refine go_aload_nN (i := 2) (pc' := 647) dL_law_646 rfl rfl rfl ?_
  first | refine go_aload_n (i := 0) (pc' := 648) dL_law_647 rfl rfl rfl ?_ | refine go_aloadX_n (i := 0) (pc' := 648) dL_law_647 rfl rfl rfl ?_ | refine go_aload_nN (i := 0) (pc' := 648) dL_law_647 rfl rfl rfl ?_
  refine go_iload_n (i := 3) (pc' := 649) dL_law_648 rfl rfl rfl ?_
  refine go_iconst (v := 1) (pc' := 650) dL_law_649 rfl (by decide) ?_
  refine go_iadd (pc' := 651) dL_law_650 rfl ?_
  refine go_sld (pc' := 652) (11 * n + 1) dL_law_651 rfl (nI_add (11 * n) 1) (by omega) (by omega) ?_
  first | refine go_aload_n (i := 0) (pc' := 653) dL_law_652 rfl rfl rfl ?_ | refine go_aloadX_n (i := 0) (pc' := 653) dL_law_652 rfl rfl rfl ?_ | refine go_aload_nN (i := 0) (pc' := 653) dL_law_652 rfl rfl rfl ?_
  refine go_iload_n (i := 3) (pc' := 654) dL_law_653 rfl rfl rfl ?_
  refine go_iconst (v := 2) (pc' := 655) dL_law_654 rfl (by decide) ?_
  refine go_iadd (pc' := 656) dL_law_655 rfl ?_
  refine go_sld (pc' := 657) (11 * n + 2) dL_law_656 rfl (nI_add (11 * n) 2) (by omega) (by omega) ?_
  first | refine go_aload_n (i := 0) (pc' := 658) dL_law_657 rfl rfl rfl ?_ | refine go_aloadX_n (i := 0) (pc' := 658) dL_law_657 rfl rfl rfl ?_ | refine go_aload_nN (i := 0) (pc' := 658) dL_law_657 rfl rfl rfl ?_
  refine go_iload_n (i := 3) (pc' := 659) dL_law_658 rfl rfl rfl ?_
  refine go_iconst (v := 3) (pc' := 660) dL_law_659 rfl (by decide) ?_
  refine go_iadd (pc' := 661) dL_law_660 rfl ?_
  refine go_sld (pc' := 662) (11 * n + 3) dL_law_661 rfl (nI_add (11 * n) 3) (by omega) (by omega) ?_
  refine go_invV (As := [_, _, _]) (pc' := 665) dL_law_662 rfl cf_L_law_84 rfl hM rfl rfl (Nat.le_of_ble_eq_true rfl) q2 (fun v2 h2 q3 => ?_)
  obtain ⟨rfl, hJ⟩ := q3
  refine go_icmp_eq (pc' := 668) (tgt := 805) dL_law_665 (by decide) rfl (fun c1 => ?_) (fun c1 => ?_)
  · exact k h2 hJ
  · exact absurd rfl c1
set_option maxRecDepth 100000 in
theorem law_relate {G : xG} {I J : xH → Prop} {n : Nat} {h : xH} {P : Option Value → xH → Prop} (hn : 11 * n + 11 ≤ gN G) (hN : gN G ≤ 5632) (h0 : ∃ fs, h.2 0 = some (.inr (9, fs))) (hO : Ow G I J) (hI : I h) (k : ∀ h', J h' → Go G mL_law 805 [some (.retAddr 99), some (.ref 0), some (.ref 233), some (.int (nI (11 * n)))] [] h' P) : Go G mL_law 670 [some (.retAddr 99), some (.ref 0), some (.ref 233), some (.int (nI (11 * n)))] [] h P := by
  obtain ⟨o0, o1, o2, o3, o4, o5, o6, o7, o8, o9, o10, o11, o12, o13, o14, o15, o16, o17, o18, o19, o20⟩ := hO
  obtain ⟨fs, h0⟩ := h0
  first | refine go_aload_n (i := 1) (pc' := 671) dL_law_670 rfl rfl rfl ?_ | refine go_aloadX_n (i := 1) (pc' := 671) dL_law_670 rfl rfl rfl ?_ | refine go_aload_nN (i := 1) (pc' := 671) dL_law_670 rfl rfl rfl ?_
  first | refine go_aload_n (i := 0) (pc' := 672) dL_law_671 rfl rfl rfl ?_ | refine go_aloadX_n (i := 0) (pc' := 672) dL_law_671 rfl rfl rfl ?_ | refine go_aload_nN (i := 0) (pc' := 672) dL_law_671 rfl rfl rfl ?_
  refine go_iload_n (i := 3) (pc' := 673) dL_law_672 rfl rfl rfl ?_
  refine go_iconst (v := 1) (pc' := 674) dL_law_673 rfl (by decide) ?_
  refine go_iadd (pc' := 675) dL_law_674 rfl ?_
  refine go_sld (pc' := 676) (11 * n + 1) dL_law_675 rfl (nI_add (11 * n) 1) (by omega) (by omega) ?_
  first | refine go_aload_n (i := 0) (pc' := 677) dL_law_676 rfl rfl rfl ?_ | refine go_aloadX_n (i := 0) (pc' := 677) dL_law_676 rfl rfl rfl ?_ | refine go_aload_nN (i := 0) (pc' := 677) dL_law_676 rfl rfl rfl ?_
  refine go_iload_n (i := 3) (pc' := 678) dL_law_677 rfl rfl rfl ?_
  refine go_iconst (v := 2) (pc' := 679) dL_law_678 rfl (by decide) ?_
  refine go_iadd (pc' := 680) dL_law_679 rfl ?_
  refine go_sld (pc' := 681) (11 * n + 2) dL_law_680 rfl (nI_add (11 * n) 2) (by omega) (by omega) ?_
  first | refine go_aload_n (i := 0) (pc' := 682) dL_law_681 rfl rfl rfl ?_ | refine go_aloadX_n (i := 0) (pc' := 682) dL_law_681 rfl rfl rfl ?_ | refine go_aload_nN (i := 0) (pc' := 682) dL_law_681 rfl rfl rfl ?_
  refine go_iload_n (i := 3) (pc' := 683) dL_law_682 rfl rfl rfl ?_
  refine go_iconst (v := 3) (pc' := 684) dL_law_683 rfl (by decide) ?_
  refine go_iadd (pc' := 685) dL_law_684 rfl ?_
  refine go_sld (pc' := 686) (11 * n + 3) dL_law_685 rfl (nI_add (11 * n) 3) (by omega) (by omega) ?_
  refine go_invV (As := [_, _, _]) (pc' := 689) dL_law_686 rfl cf_L_law_85 rfl h0 rfl rfl (Nat.le_of_ble_eq_true rfl) (o16 _ hI _ _ _) (fun v1 h1 q1 => ?_)
  obtain ⟨x, F, rfl, hM, q2⟩ := q1
  first | refine go_aload_n (i := 2) (pc' := 690) dL_law_689 rfl rfl rfl ?_ | refine go_aloadX_n (i := 2) (pc' := 690) dL_law_689 rfl rfl rfl ?_ | refine go_aload_nN (i := 2) (pc' := 690) dL_law_689 rfl rfl rfl ?_
  first | refine go_aload_n (i := 0) (pc' := 691) dL_law_690 rfl rfl rfl ?_ | refine go_aloadX_n (i := 0) (pc' := 691) dL_law_690 rfl rfl rfl ?_ | refine go_aload_nN (i := 0) (pc' := 691) dL_law_690 rfl rfl rfl ?_
  refine go_iload_n (i := 3) (pc' := 692) dL_law_691 rfl rfl rfl ?_
  refine go_iconst (v := 1) (pc' := 693) dL_law_692 rfl (by decide) ?_
  refine go_iadd (pc' := 694) dL_law_693 rfl ?_
  refine go_sld (pc' := 695) (11 * n + 1) dL_law_694 rfl (nI_add (11 * n) 1) (by omega) (by omega) ?_
  first | refine go_aload_n (i := 0) (pc' := 696) dL_law_695 rfl rfl rfl ?_ | refine go_aloadX_n (i := 0) (pc' := 696) dL_law_695 rfl rfl rfl ?_ | refine go_aload_nN (i := 0) (pc' := 696) dL_law_695 rfl rfl rfl ?_
  refine go_iload_n (i := 3) (pc' := 697) dL_law_696 rfl rfl rfl ?_
  refine go_iconst (v := 2) (pc' := 698) dL_law_697 rfl (by decide) ?_
  refine go_iadd (pc' := 699) dL_law_698 rfl ?_
  refine go_sld (pc' := 700) (11 * n + 2) dL_law_699 rfl (nI_add (11 * n) 2) (by omega) (by omega) ?_
  first | refine go_aload_n (i := 0) (pc' := 701) dL_law_700 rfl rfl rfl ?_ | refine go_aloadX_n (i := 0) (pc' := 701) dL_law_700 rfl rfl rfl ?_ | refine go_aload_nN (i := 0) (pc' := 701) dL_law_700 rfl rfl rfl ?_
  refine go_iload_n (i := 3) (pc' := 702) dL_law_701 rfl rfl rfl ?_
  refine go_iconst (v := 3) (pc' := 703) dL_law_702 rfl (by decide) ?_
  refine go_iadd (pc' := 704) dL_law_703 rfl ?_
  refine go_sld (pc' := 705) (11 * n + 3) dL_law_704 rfl (nI_add (11 * n) 3) (by omega) (by omega) ?_
  refine go_invV (As := [_, _, _]) (pc' := 708) dL_law_705 rfl cf_L_law_88 rfl hM rfl rfl (Nat.le_of_ble_eq_true rfl) q2 (fun v2 h2 q3 => ?_)
  obtain ⟨rfl, hJ⟩ := q3
  refine go_icmp_eq (pc' := 711) (tgt := 805) dL_law_708 (by decide) rfl (fun c1 => ?_) (fun c1 => ?_)
  · exact k h2 hJ
  · exact absurd rfl c1
set_option maxRecDepth 100000 in
theorem law_nearer {G : xG} {I J : xH → Prop} {n : Nat} {h : xH} {P : Option Value → xH → Prop} (hn : 11 * n + 11 ≤ gN G) (hN : gN G ≤ 5632) (h0 : ∃ fs, h.2 0 = some (.inr (9, fs))) (hO : Ow G I J) (hI : I h) (k : ∀ h', J h' → Go G mL_law 805 [some (.retAddr 99), some (.ref 0), some (.ref 233), some (.int (nI (11 * n)))] [] h' P) : Go G mL_law 713 [some (.retAddr 99), some (.ref 0), some (.ref 233), some (.int (nI (11 * n)))] [] h P := by
  obtain ⟨o0, o1, o2, o3, o4, o5, o6, o7, o8, o9, o10, o11, o12, o13, o14, o15, o16, o17, o18, o19, o20⟩ := hO
  obtain ⟨fs, h0⟩ := h0
  first | refine go_aload_n (i := 1) (pc' := 714) dL_law_713 rfl rfl rfl ?_ | refine go_aloadX_n (i := 1) (pc' := 714) dL_law_713 rfl rfl rfl ?_ | refine go_aload_nN (i := 1) (pc' := 714) dL_law_713 rfl rfl rfl ?_
  first | refine go_aload_n (i := 0) (pc' := 715) dL_law_714 rfl rfl rfl ?_ | refine go_aloadX_n (i := 0) (pc' := 715) dL_law_714 rfl rfl rfl ?_ | refine go_aload_nN (i := 0) (pc' := 715) dL_law_714 rfl rfl rfl ?_
  refine go_iload_n (i := 3) (pc' := 716) dL_law_715 rfl rfl rfl ?_
  refine go_iconst (v := 1) (pc' := 717) dL_law_716 rfl (by decide) ?_
  refine go_iadd (pc' := 718) dL_law_717 rfl ?_
  refine go_sld (pc' := 719) (11 * n + 1) dL_law_718 rfl (nI_add (11 * n) 1) (by omega) (by omega) ?_
  first | refine go_aload_n (i := 0) (pc' := 720) dL_law_719 rfl rfl rfl ?_ | refine go_aloadX_n (i := 0) (pc' := 720) dL_law_719 rfl rfl rfl ?_ | refine go_aload_nN (i := 0) (pc' := 720) dL_law_719 rfl rfl rfl ?_
  refine go_iload_n (i := 3) (pc' := 721) dL_law_720 rfl rfl rfl ?_
  refine go_iconst (v := 2) (pc' := 722) dL_law_721 rfl (by decide) ?_
  refine go_iadd (pc' := 723) dL_law_722 rfl ?_
  refine go_sld (pc' := 724) (11 * n + 2) dL_law_723 rfl (nI_add (11 * n) 2) (by omega) (by omega) ?_
  first | refine go_aload_n (i := 0) (pc' := 725) dL_law_724 rfl rfl rfl ?_ | refine go_aloadX_n (i := 0) (pc' := 725) dL_law_724 rfl rfl rfl ?_ | refine go_aload_nN (i := 0) (pc' := 725) dL_law_724 rfl rfl rfl ?_
  refine go_iload_n (i := 3) (pc' := 726) dL_law_725 rfl rfl rfl ?_
  refine go_iconst (v := 3) (pc' := 727) dL_law_726 rfl (by decide) ?_
  refine go_iadd (pc' := 728) dL_law_727 rfl ?_
  refine go_sld (pc' := 729) (11 * n + 3) dL_law_728 rfl (nI_add (11 * n) 3) (by omega) (by omega) ?_
  first | refine go_aload_n (i := 0) (pc' := 730) dL_law_729 rfl rfl rfl ?_ | refine go_aloadX_n (i := 0) (pc' := 730) dL_law_729 rfl rfl rfl ?_ | refine go_aload_nN (i := 0) (pc' := 730) dL_law_729 rfl rfl rfl ?_
  refine go_iload_n (i := 3) (pc' := 731) dL_law_730 rfl rfl rfl ?_
  refine go_iconst (v := 4) (pc' := 732) dL_law_731 rfl (by decide) ?_
  refine go_iadd (pc' := 733) dL_law_732 rfl ?_
  refine go_sld (pc' := 734) (11 * n + 4) dL_law_733 rfl (nI_add (11 * n) 4) (by omega) (by omega) ?_
  refine go_invV (As := [_, _, _, _]) (pc' := 737) dL_law_734 rfl cf_L_law_89 rfl h0 rfl rfl (Nat.le_of_ble_eq_true rfl) (o17 _ hI _ _ _ _) (fun v1 h1 q1 => ?_)
  obtain ⟨x, F, rfl, hM, q2⟩ := q1
  first | refine go_aload_n (i := 2) (pc' := 738) dL_law_737 rfl rfl rfl ?_ | refine go_aloadX_n (i := 2) (pc' := 738) dL_law_737 rfl rfl rfl ?_ | refine go_aload_nN (i := 2) (pc' := 738) dL_law_737 rfl rfl rfl ?_
  first | refine go_aload_n (i := 0) (pc' := 739) dL_law_738 rfl rfl rfl ?_ | refine go_aloadX_n (i := 0) (pc' := 739) dL_law_738 rfl rfl rfl ?_ | refine go_aload_nN (i := 0) (pc' := 739) dL_law_738 rfl rfl rfl ?_
  refine go_iload_n (i := 3) (pc' := 740) dL_law_739 rfl rfl rfl ?_
  refine go_iconst (v := 1) (pc' := 741) dL_law_740 rfl (by decide) ?_
  refine go_iadd (pc' := 742) dL_law_741 rfl ?_
  refine go_sld (pc' := 743) (11 * n + 1) dL_law_742 rfl (nI_add (11 * n) 1) (by omega) (by omega) ?_
  first | refine go_aload_n (i := 0) (pc' := 744) dL_law_743 rfl rfl rfl ?_ | refine go_aloadX_n (i := 0) (pc' := 744) dL_law_743 rfl rfl rfl ?_ | refine go_aload_nN (i := 0) (pc' := 744) dL_law_743 rfl rfl rfl ?_
  refine go_iload_n (i := 3) (pc' := 745) dL_law_744 rfl rfl rfl ?_
  refine go_iconst (v := 2) (pc' := 746) dL_law_745 rfl (by decide) ?_
  refine go_iadd (pc' := 747) dL_law_746 rfl ?_
  refine go_sld (pc' := 748) (11 * n + 2) dL_law_747 rfl (nI_add (11 * n) 2) (by omega) (by omega) ?_
  first | refine go_aload_n (i := 0) (pc' := 749) dL_law_748 rfl rfl rfl ?_ | refine go_aloadX_n (i := 0) (pc' := 749) dL_law_748 rfl rfl rfl ?_ | refine go_aload_nN (i := 0) (pc' := 749) dL_law_748 rfl rfl rfl ?_
  refine go_iload_n (i := 3) (pc' := 750) dL_law_749 rfl rfl rfl ?_
  refine go_iconst (v := 3) (pc' := 751) dL_law_750 rfl (by decide) ?_
  refine go_iadd (pc' := 752) dL_law_751 rfl ?_
  refine go_sld (pc' := 753) (11 * n + 3) dL_law_752 rfl (nI_add (11 * n) 3) (by omega) (by omega) ?_
  first | refine go_aload_n (i := 0) (pc' := 754) dL_law_753 rfl rfl rfl ?_ | refine go_aloadX_n (i := 0) (pc' := 754) dL_law_753 rfl rfl rfl ?_ | refine go_aload_nN (i := 0) (pc' := 754) dL_law_753 rfl rfl rfl ?_
  refine go_iload_n (i := 3) (pc' := 755) dL_law_754 rfl rfl rfl ?_
  refine go_iconst (v := 4) (pc' := 756) dL_law_755 rfl (by decide) ?_
  refine go_iadd (pc' := 757) dL_law_756 rfl ?_
  refine go_sld (pc' := 758) (11 * n + 4) dL_law_757 rfl (nI_add (11 * n) 4) (by omega) (by omega) ?_
  refine go_invV (As := [_, _, _, _]) (pc' := 761) dL_law_758 rfl cf_L_law_93 rfl hM rfl rfl (Nat.le_of_ble_eq_true rfl) q2 (fun v2 h2 q3 => ?_)
  obtain ⟨rfl, hJ⟩ := q3
  refine go_icmp_eq (pc' := 764) (tgt := 805) dL_law_761 (by decide) rfl (fun c1 => ?_) (fun c1 => ?_)
  · exact k h2 hJ
  · exact absurd rfl c1
set_option maxRecDepth 100000 in
theorem law_used {G : xG} {I J : xH → Prop} {n : Nat} {h : xH} {P : Option Value → xH → Prop} (hn : 11 * n + 11 ≤ gN G) (hN : gN G ≤ 5632) (h0 : ∃ fs, h.2 0 = some (.inr (9, fs))) (hO : Ow G I J) (hI : I h) (k : ∀ h', J h' → Go G mL_law 805 [some (.retAddr 99), some (.ref 0), some (.ref 233), some (.int (nI (11 * n)))] [] h' P) : Go G mL_law 766 [some (.retAddr 99), some (.ref 0), some (.ref 233), some (.int (nI (11 * n)))] [] h P := by
  obtain ⟨o0, o1, o2, o3, o4, o5, o6, o7, o8, o9, o10, o11, o12, o13, o14, o15, o16, o17, o18, o19, o20⟩ := hO
  obtain ⟨fs, h0⟩ := h0
  first | refine go_aload_n (i := 1) (pc' := 767) dL_law_766 rfl rfl rfl ?_ | refine go_aloadX_n (i := 1) (pc' := 767) dL_law_766 rfl rfl rfl ?_ | refine go_aload_nN (i := 1) (pc' := 767) dL_law_766 rfl rfl rfl ?_
  refine go_invV (As := []) (pc' := 770) dL_law_767 rfl cf_L_law_94 rfl h0 rfl rfl (Nat.le_of_ble_eq_true rfl) (o18 _ hI ) (fun v1 h1 q1 => ?_)
  obtain ⟨x, F, rfl, hM, q2⟩ := q1
  first | refine go_aload_n (i := 2) (pc' := 771) dL_law_770 rfl rfl rfl ?_ | refine go_aloadX_n (i := 2) (pc' := 771) dL_law_770 rfl rfl rfl ?_ | refine go_aload_nN (i := 2) (pc' := 771) dL_law_770 rfl rfl rfl ?_
  refine go_invV (As := []) (pc' := 774) dL_law_771 rfl cf_L_law_97 rfl hM rfl rfl (Nat.le_of_ble_eq_true rfl) q2 (fun v2 h2 q3 => ?_)
  obtain ⟨rfl, hJ⟩ := q3
  refine go_icmp_eq (pc' := 777) (tgt := 805) dL_law_774 (by decide) rfl (fun c1 => ?_) (fun c1 => ?_)
  · exact k h2 hJ
  · exact absurd rfl c1
set_option maxRecDepth 100000 in
theorem law_saves {G : xG} {I J : xH → Prop} {n : Nat} {h : xH} {P : Option Value → xH → Prop} (hn : 11 * n + 11 ≤ gN G) (hN : gN G ≤ 5632) (h0 : ∃ fs, h.2 0 = some (.inr (9, fs))) (hO : Ow G I J) (hI : I h) (k : ∀ h', J h' → Go G mL_law 805 [some (.retAddr 99), some (.ref 0), some (.ref 233), some (.int (nI (11 * n)))] [] h' P) : Go G mL_law 779 [some (.retAddr 99), some (.ref 0), some (.ref 233), some (.int (nI (11 * n)))] [] h P := by
  obtain ⟨o0, o1, o2, o3, o4, o5, o6, o7, o8, o9, o10, o11, o12, o13, o14, o15, o16, o17, o18, o19, o20⟩ := hO
  obtain ⟨fs, h0⟩ := h0
  first | refine go_aload_n (i := 1) (pc' := 780) dL_law_779 rfl rfl rfl ?_ | refine go_aloadX_n (i := 1) (pc' := 780) dL_law_779 rfl rfl rfl ?_ | refine go_aload_nN (i := 1) (pc' := 780) dL_law_779 rfl rfl rfl ?_
  refine go_invV (As := []) (pc' := 783) dL_law_780 rfl cf_L_law_98 rfl h0 rfl rfl (Nat.le_of_ble_eq_true rfl) (o19 _ hI ) (fun v1 h1 q1 => ?_)
  obtain ⟨x, F, rfl, hM, q2⟩ := q1
  first | refine go_aload_n (i := 2) (pc' := 784) dL_law_783 rfl rfl rfl ?_ | refine go_aloadX_n (i := 2) (pc' := 784) dL_law_783 rfl rfl rfl ?_ | refine go_aload_nN (i := 2) (pc' := 784) dL_law_783 rfl rfl rfl ?_
  refine go_invV (As := []) (pc' := 787) dL_law_784 rfl cf_L_law_101 rfl hM rfl rfl (Nat.le_of_ble_eq_true rfl) q2 (fun v2 h2 q3 => ?_)
  obtain ⟨rfl, hJ⟩ := q3
  refine go_icmp_eq (pc' := 790) (tgt := 805) dL_law_787 (by decide) rfl (fun c1 => ?_) (fun c1 => ?_)
  · exact k h2 hJ
  · exact absurd rfl c1
set_option maxRecDepth 100000 in
theorem law_flaws {G : xG} {I J : xH → Prop} {n : Nat} {h : xH} {P : Option Value → xH → Prop} (hn : 11 * n + 11 ≤ gN G) (hN : gN G ≤ 5632) (h0 : ∃ fs, h.2 0 = some (.inr (9, fs))) (hO : Ow G I J) (hI : I h) (k : ∀ h', J h' → Go G mL_law 805 [some (.retAddr 99), some (.ref 0), some (.ref 233), some (.int (nI (11 * n)))] [] h' P) : Go G mL_law 792 [some (.retAddr 99), some (.ref 0), some (.ref 233), some (.int (nI (11 * n)))] [] h P := by
  obtain ⟨o0, o1, o2, o3, o4, o5, o6, o7, o8, o9, o10, o11, o12, o13, o14, o15, o16, o17, o18, o19, o20⟩ := hO
  obtain ⟨fs, h0⟩ := h0
  first | refine go_aload_n (i := 1) (pc' := 793) dL_law_792 rfl rfl rfl ?_ | refine go_aloadX_n (i := 1) (pc' := 793) dL_law_792 rfl rfl rfl ?_ | refine go_aload_nN (i := 1) (pc' := 793) dL_law_792 rfl rfl rfl ?_
  refine go_invV (As := []) (pc' := 796) dL_law_793 rfl cf_L_law_102 rfl h0 rfl rfl (Nat.le_of_ble_eq_true rfl) (o20 _ hI ) (fun v1 h1 q1 => ?_)
  obtain ⟨x, F, rfl, hM, q2⟩ := q1
  first | refine go_aload_n (i := 2) (pc' := 797) dL_law_796 rfl rfl rfl ?_ | refine go_aloadX_n (i := 2) (pc' := 797) dL_law_796 rfl rfl rfl ?_ | refine go_aload_nN (i := 2) (pc' := 797) dL_law_796 rfl rfl rfl ?_
  refine go_invV (As := []) (pc' := 800) dL_law_797 rfl cf_L_law_105 rfl hM rfl rfl (Nat.le_of_ble_eq_true rfl) q2 (fun v2 h2 q3 => ?_)
  obtain ⟨rfl, hJ⟩ := q3
  refine go_icmp_eq (pc' := 803) (tgt := 805) dL_law_800 (by decide) rfl (fun c1 => ?_) (fun c1 => ?_)
  · exact k h2 hJ
  · exact absurd rfl c1
/-- the loop: I n holds ahead of the n-th call -/
def Bd (h : xH) : Prop := h.1.1 ≤ 600000 ∧ h.1.2 ≤ 7302250
set_option maxRecDepth 100000 in
theorem law_loop {G : xG} {I : Nat → xH → Prop} (hN : gN G ≤ 5632) (hB : ∀ n h, I n h → Bd h ∧ ∃ fs, h.2 0 = some (.inr (9, fs))) (hKeep : ∀ n h, I n h → I (n + 1) h) (hO : ∀ n, 11 * n + 11 ≤ gN G → Ow G (I n) (I (n + 1))) :
    ∀ (m n : Nat) (h : xH), gN G < 11 * (n + m) → n + m ≤ 513 → I n h → Go G mL_law 18 [some (.retAddr 99), some (.ref 0), some (.ref 233), some (.int (nI (11 * n)))] [] h (fun v h' => v = some (.int 1) ∧ Bd h') := by
  intro m
  induction m with
  | zero =>
    intro n h hm hm2 hI
    refine go_iload_n (i := 3) (pc' := 19) dL_law_18 rfl rfl rfl ?_
    first | refine go_aload_n (i := 0) (pc' := 20) dL_law_19 rfl rfl rfl ?_ | refine go_aloadX_n (i := 0) (pc' := 20) dL_law_19 rfl rfl rfl ?_ | refine go_aload_nN (i := 0) (pc' := 20) dL_law_19 rfl rfl rfl ?_
    refine go_slen (pc' := 21) dL_law_20 rfl ?_
    refine go_bipush (v := 11) (pc' := 23) dL_law_21 rfl (by decide) ?_
    refine go_isub (pc' := 24) dL_law_23 rfl ?_
    refine go_icmp_gt (pc' := 27) (tgt := 811) dL_law_24 (by decide) rfl (fun c1 => ?_) (fun c1 => ?_)
    · refine go_iconst (v := 1) (pc' := 812) dL_law_811 rfl (by decide) ?_
      exact Go.ret (v := some (.int _)) dL_law_812 ⟨_, rfl⟩ ⟨rfl,(hB n h hI).1⟩
    · refine absurd ?_ c1
      rw [Int32.lt_iff_toInt_lt, show (11 : Int32) = nI 11 from rfl, pk_sub_toInt (by omega) (by omega), nI_toInt (by omega)]
      omega
  | succ m ih =>
    intro n h hm hm2 hI
    refine go_iload_n (i := 3) (pc' := 19) dL_law_18 rfl rfl rfl ?_
    first | refine go_aload_n (i := 0) (pc' := 20) dL_law_19 rfl rfl rfl ?_ | refine go_aloadX_n (i := 0) (pc' := 20) dL_law_19 rfl rfl rfl ?_ | refine go_aload_nN (i := 0) (pc' := 20) dL_law_19 rfl rfl rfl ?_
    refine go_slen (pc' := 21) dL_law_20 rfl ?_
    refine go_bipush (v := 11) (pc' := 23) dL_law_21 rfl (by decide) ?_
    refine go_isub (pc' := 24) dL_law_23 rfl ?_
    refine go_icmp_gt (pc' := 27) (tgt := 811) dL_law_24 (by decide) rfl (fun c1 => ?_) (fun c1 => ?_)
    · refine go_iconst (v := 1) (pc' := 812) dL_law_811 rfl (by decide) ?_
      exact Go.ret (v := some (.int _)) dL_law_812 ⟨_, rfl⟩ ⟨rfl,(hB n h hI).1⟩
    · have hlt : 11 * n + 11 ≤ gN G := by
        rw [Int32.lt_iff_toInt_lt, show (11 : Int32) = nI 11 from rfl, pk_sub_toInt (by omega) (by omega), nI_toInt (by omega)] at c1
        omega
      have k : ∀ h', I (n + 1) h' → Go G mL_law 805 [some (.retAddr 99), some (.ref 0), some (.ref 233), some (.int (nI (11 * n)))] [] h' (fun v h' => v = some (.int 1) ∧ Bd h') := by
        intro h' hI'
        refine go_iincC (kk := 11) (pc' := 808) dL_law_805 rfl rfl (by decide) (by decide) rfl ?_
        refine go_goto (pc' := 0) (tgt := 18) dL_law_808 (by decide) ?_
        have e : nI (11 * n) + 11 = nI (11 * (n + 1)) := nI_add (11 * n) 11
        rw [e]
        exact ih (n + 1) h' (by omega) (by omega) hI'
      first | refine go_aload_n (i := 0) (pc' := 28) dL_law_27 rfl rfl rfl ?_ | refine go_aloadX_n (i := 0) (pc' := 28) dL_law_27 rfl rfl rfl ?_ | refine go_aload_nN (i := 0) (pc' := 28) dL_law_27 rfl rfl rfl ?_
      refine go_iload_n (i := 3) (pc' := 29) dL_law_28 rfl rfl rfl ?_
      refine go_sld (pc' := 30) (11 * n) dL_law_29 rfl rfl (by omega) (by omega) ?_
      refine go_bipush (v := 31) (pc' := 32) dL_law_30 rfl (by decide) ?_
      refine go_iand (pc' := 33) dL_law_32 rfl ?_
      obtain ⟨j, hj, ej⟩ := pk_andE (gS G (11 * n)) (m := 31) 5 (by decide)
      rw [ej]
      have h0 := (hB n h hI).2
      rcases Nat.lt_or_ge j 21 with hj21 | hj21
      · rcases (show j = 0 ∨ j = 1 ∨ j = 2 ∨ j = 3 ∨ j = 4 ∨ j = 5 ∨ j = 6 ∨ j = 7 ∨ j = 8 ∨ j = 9 ∨ j = 10 ∨ j = 11 ∨ j = 12 ∨ j = 13 ∨ j = 14 ∨ j = 15 ∨ j = 16 ∨ j = 17 ∨ j = 18 ∨ j = 19 ∨ j = 20 by omega) with rfl | rfl | rfl | rfl | rfl | rfl | rfl | rfl | rfl | rfl | rfl | rfl | rfl | rfl | rfl | rfl | rfl | rfl | rfl | rfl | rfl
        · exact go_tableIn (pc' := 0) (tgt := 132) dL_law_33 (by decide) (by decide) rfl (by decide) (law_feed hlt hN h0 (hO n hlt) hI k)
        · exact go_tableIn (pc' := 0) (tgt := 355) dL_law_33 (by decide) (by decide) rfl (by decide) (law_end hlt hN h0 (hO n hlt) hI k)
        · exact go_tableIn (pc' := 0) (tgt := 378) dL_law_33 (by decide) (by decide) rfl (by decide) (law_run hlt hN h0 (hO n hlt) hI k)
        · exact go_tableIn (pc' := 0) (tgt := 391) dL_law_33 (by decide) (by decide) rfl (by decide) (law_wrong hlt hN h0 (hO n hlt) hI k)
        · exact go_tableIn (pc' := 0) (tgt := 404) dL_law_33 (by decide) (by decide) rfl (by decide) (law_outputs hlt hN h0 (hO n hlt) hI k)
        · exact go_tableIn (pc' := 0) (tgt := 417) dL_law_33 (by decide) (by decide) rfl (by decide) (law_out hlt hN h0 (hO n hlt) hI k)
        · exact go_tableIn (pc' := 0) (tgt := 440) dL_law_33 (by decide) (by decide) rfl (by decide) (law_crash hlt hN h0 (hO n hlt) hI k)
        · exact go_tableIn (pc' := 0) (tgt := 483) dL_law_33 (by decide) (by decide) rfl (by decide) (law_recover hlt hN h0 (hO n hlt) hI k)
        · exact go_tableIn (pc' := 0) (tgt := 496) dL_law_33 (by decide) (by decide) rfl (by decide) (law_isDown hlt hN h0 (hO n hlt) hI k)
        · exact go_tableIn (pc' := 0) (tgt := 509) dL_law_33 (by decide) (by decide) rfl (by decide) (law_isOpen hlt hN h0 (hO n hlt) hI k)
        · exact go_tableIn (pc' := 0) (tgt := 522) dL_law_33 (by decide) (by decide) rfl (by decide) (law_live hlt hN h0 (hO n hlt) hI k)
        · exact go_tableIn (pc' := 0) (tgt := 535) dL_law_33 (by decide) (by decide) rfl (by decide) (law_idAt hlt hN h0 (hO n hlt) hI k)
        · exact go_tableIn (pc' := 0) (tgt := 558) dL_law_33 (by decide) (by decide) rfl (by decide) (law_kindOf hlt hN h0 (hO n hlt) hI k)
        · exact go_tableIn (pc' := 0) (tgt := 581) dL_law_33 (by decide) (by decide) rfl (by decide) (law_places hlt hN h0 (hO n hlt) hI k)
        · exact go_tableIn (pc' := 0) (tgt := 604) dL_law_33 (by decide) (by decide) rfl (by decide) (law_rings hlt hN h0 (hO n hlt) hI k)
        · exact go_tableIn (pc' := 0) (tgt := 627) dL_law_33 (by decide) (by decide) rfl (by decide) (law_at hlt hN h0 (hO n hlt) hI k)
        · exact go_tableIn (pc' := 0) (tgt := 670) dL_law_33 (by decide) (by decide) rfl (by decide) (law_relate hlt hN h0 (hO n hlt) hI k)
        · exact go_tableIn (pc' := 0) (tgt := 713) dL_law_33 (by decide) (by decide) rfl (by decide) (law_nearer hlt hN h0 (hO n hlt) hI k)
        · exact go_tableIn (pc' := 0) (tgt := 766) dL_law_33 (by decide) (by decide) rfl (by decide) (law_used hlt hN h0 (hO n hlt) hI k)
        · exact go_tableIn (pc' := 0) (tgt := 779) dL_law_33 (by decide) (by decide) rfl (by decide) (law_saves hlt hN h0 (hO n hlt) hI k)
        · exact go_tableIn (pc' := 0) (tgt := 792) dL_law_33 (by decide) (by decide) rfl (by decide) (law_flaws hlt hN h0 (hO n hlt) hI k)
      · refine go_tableOut (pc' := 0) (tgt := 805) dL_law_33 (Or.inr ?_) (by decide) (k h (hKeep n h hI))
        rw [nI_toInt (by omega)]
        omega

set_option maxRecDepth 100000 in
/-- from the entry: both are made, then the loop -/
theorem law_all {G : xG} {I : Nat → xH → Prop} (hN : gN G ≤ 5632) (h0 : ∀ h : xH, h.1 = (2476, 103911) → CIn h → MIn h → I 0 h) (hB : ∀ n h, I n h → Bd h ∧ ∃ fs, h.2 0 = some (.inr (9, fs))) (hKeep : ∀ n h, I n h → I (n + 1) h) (hO : ∀ n, 11 * n + 11 ≤ gN G → Ow G (I n) (I (n + 1))) : Go G mL_law 0 [some (.retAddr 99), none, none, none] [] ((0, 0), fun _ => none) (fun v h' => v = some (.int 1) ∧ Bd h') := by
  have hz : (((0, 0), fun _ => none) : xH).1 = (0, 0) := rfl
  generalize (((0, 0), fun _ => none) : xH) = h at hz ⊢
  refine go_newK (pc' := 3) dL_law_0 rfl nw_LandBaseLaw_7 hz (fun hp1 zp1 cp1 fp1 => ?_)
  have hz := zp1
  have hh := cp1
  refine go_dup (pc' := 4) dL_law_3 rfl rfl ?_
  refine go_invI (As := []) (pc' := 7) dL_law_4 rfl cf_L_law_9 rfl rfl (Nat.le_of_ble_eq_true rfl) (c_Land_init (hz:=hz) (hh:=hh)) (fun v2 h2 q2 => ?_)
  obtain ⟨rfl, hz, hC⟩ := q2
  first | refine go_astore_n (i := 1) (pc' := 8) dL_law_7 rfl rfl (by decide) rfl ?_ | refine go_astoreX_n (i := 1) (pc' := 8) dL_law_7 rfl rfl (by decide) rfl ?_ | refine go_astore_nN (i := 1) (pc' := 8) dL_law_7 rfl rfl (by decide) rfl ?_
  refine go_newK (pc' := 11) dL_law_8 rfl nw_LandBaseLaw_10 hz (fun hp3 zp3 cp3 fp3 => ?_)
  have hz := zp3
  have hm := cp3
  refine go_dup (pc' := 12) dL_law_11 rfl rfl ?_
  have hm2 : hp3.2 233 = some (.inr (13, mkF mF0 58)) := hm
  refine go_invI (As := []) (pc' := 15) dL_law_12 rfl cf_L_law_12 rfl rfl (Nat.le_of_ble_eq_true rfl) (c_Model_init (hz:=hz) (hh:=hm2)) (fun v4 h4 q4 => ?_)
  obtain ⟨rfl, hz4, hM, fr4⟩ := q4
  have hC4 : CIn h4 := hC.kept (fun b hb => (fr4 b hb).trans (fp3 b (by omega)))
  first | refine go_astore_n (i := 2) (pc' := 16) dL_law_15 rfl rfl (by decide) rfl ?_ | refine go_astoreX_n (i := 2) (pc' := 16) dL_law_15 rfl rfl (by decide) rfl ?_ | refine go_astore_nN (i := 2) (pc' := 16) dL_law_15 rfl rfl (by decide) rfl ?_
  refine go_iconst (v := 0) (pc' := 17) dL_law_16 rfl (by decide) ?_
  refine go_istore_n (i := 3) (pc' := 18) dL_law_17 rfl rfl (by decide) rfl ?_
  exact law_loop hN hB hKeep hO 513 0 h4 (by omega) (by omega) (h0 h4 hz4 hC4 hM)
end
section
/-! FROM THE LAW'S ENTRY: the tables, the texts, the script; the walk of the law gives whole_start -/
def xSf (q : String × Nat × String) : Term := .field (.string q.1 q.2.1) "java/lang/String" "value" "[B"
def xSc (j : Nat) (q : String × Nat × String) : List Cond := [.exactly (.string q.1 q.2.1) "java/lang/String", .eq (.field (.string q.1 q.2.1) "java/lang/String" "coder" "B") (.int 0), .arrayOf (xSf q) .byte, .eq (.length (xSf q)) (.int (Int32.ofNat (xTb j).length))] ++ (List.range (xTb j).length).map (fun i => .eq (.elem (xSf q) (.int (Int32.ofNat i))) (.int ((xTb j).getD i 0)))
set_option maxRecDepth 1000000 in
theorem xSc_flat : (flatC narrow_1).drop 7 = (List.range 28).flatMap (fun j => xSc j (xTx.getD j ("", 0, ""))) := by decide +kernel
theorem xSr_in : (xTx.all fun q => decide (Cond.stringRef q.1 q.2.1 q.2.2 ∈ lw_tbl)) = true := by decide +kernel
theorem xTb_small : ((List.range 28).all fun j => decide ((xTb j).length < 100)) = true := by decide +kernel
theorem xTx_len : xTx.length = 28 := by decide
theorem xN_tab {w : Cond} (h : w ∈ xN) : w ∈ lw_tbl := (List.mem_filter.mp h).1
/-- what holds at the law's entry gives what is known of the tables -/
theorem start_Kn {p : Program} {s : State} {m : MethodId} {meth : Method} {c : Code} (l : Launch) {b L : Nat} {xs : Nat → Int32} (C0 : lw_At p s m meth c b L xs) : ∃ G : xG, gL G = l ∧ gH G = s.heap ∧ gN G = L ∧ gX G 99 = b ∧ xKn G s := by
  obtain ⟨hx, hb, hr, hml, hown, hts, hX, hbl, hlocks, hgv⟩ := C0
  have hflat := flat_of_before _ hgv
  have hnar : ∀ w ∈ flatC narrow_1, w.before #[Value.ref b] s = true := fun w hw => hflat w (by simp only [flatC, List.mem_append]; exact Or.inr hw)
  have hA : ∀ a : Nat, a < s.heap.size → ¬ (fun q : Nat => s.heap.size ≤ q) a := fun a ha => Nat.not_le.mpr ha
  -- classes
  have hcl : ∀ (k : Nat) (q : vw_C), vwCl[k]? = some q → ∃ (d : ClassId) (i : Nat → Nat), u_Kn s q.1 q.2.1 q.2.2 d i := by
    intro k q hq
    have all : ∀ q ∈ vwCl, (∀ w ∈ u_ws q.1 q.2.1 q.2.2, w ∈ lw_tbl) ∧ Cond.instantiable q.1 q.2.2 ∈ lw_tbl := by
      have e : vwCl.all (fun q => (u_ws q.1 q.2.1 q.2.2).all (fun w => decide (w ∈ lw_tbl)) && decide (Cond.instantiable q.1 q.2.2 ∈ lw_tbl)) = true := by decide +kernel
      intro q hq
      have e1 := List.all_eq_true.mp e q hq
      simp only [Bool.and_eq_true, decide_eq_true_eq] at e1
      refine ⟨fun w hw => ?_, e1.2⟩
      have e2 := List.all_eq_true.mp e1.1 w hw
      simpa using e2
    obtain ⟨a1, a2⟩ := all q (List.mem_of_getElem? hq)
    exact u_known hts a1 (hts _ a2)
  have hcl2 : ∀ k : Nat, ∃ z : ClassId × (Nat → Nat), ∀ q : vw_C, vwCl[k]? = some q → u_Kn s q.1 q.2.1 q.2.2 z.1 z.2 := by
    intro k
    cases hq : vwCl[k]? with
    | none => exact ⟨(0, fun _ => 0), fun q h => by cases h⟩
    | some q =>
      obtain ⟨d, i, h⟩ := hcl k q hq
      exact ⟨(d, i), fun q' h' => by cases h'; exact h⟩
  obtain ⟨dd, hdd⟩ := Classical.axiomOfChoice hcl2
  -- arrays
  have har : ∀ t : Nat, ∃ cA : ClassId, t < 8 → ArrOfT s cA (xty t) ∧ va_RA s cA (xty t) := by
    intro t
    by_cases ht : t < 4
    · have hw : Cond.arrayClass (xty t) ∈ lw_tbl := by
        rcases (show t = 0 ∨ t = 1 ∨ t = 2 ∨ t = 3 by omega) with rfl | rfl | rfl | rfl <;> decide +kernel
      obtain ⟨cA, k, comp, g1, g2, g3⟩ := Cond.arrayClass_spec (hts _ hw)
      refine ⟨cA, fun _ => ⟨fun n z => ⟨fun k h => (by cases h), k, g2, comp, g3⟩, ?_⟩⟩
      rcases (show t = 0 ∨ t = 1 ∨ t = 2 ∨ t = 3 by omega) with rfl | rfl | rfl | rfl <;> exact g1
    · by_cases ht8 : t < 8
      · have hw : Cond.arrayOver (xty t) ∈ lw_tbl := by
          rcases (show t = 4 ∨ t = 5 ∨ t = 6 ∨ t = 7 by omega) with rfl | rfl | rfl | rfl <;> decide +kernel
        obtain ⟨C, hC⟩ : ∃ C, xty t = .object C := by
          rcases (show t = 4 ∨ t = 5 ∨ t = 6 ∨ t = 7 by omega) with rfl | rfl | rfl | rfl <;> exact ⟨_, rfl⟩
        rw [hC] at hw ⊢
        obtain ⟨comp, cA, k, g1, g2, g3, g4, g5⟩ := Cond.arrayOver_spec (hts _ hw)
        exact ⟨cA, fun _ => ⟨fun n z => ⟨fun k h => (by cases h), k, g3, comp, g4⟩, k, comp, g3, g4, g1, g5⟩⟩
      · exact ⟨0, fun h => absurd h ht8⟩
  obtain ⟨cA, hcA⟩ := Classical.axiomOfChoice har
  -- texts
  have htx : ∀ j : Nat, ∃ z : Nat × Nat, ∀ q, xTx[j]? = some q → vk_R q.1 q.2.1 q.2.2 z.1 s ∧ va_O "java/lang/String" z.1 (fun q : Nat => s.heap.size ≤ q) s s.heap ∧ va_OF "java/lang/String" "coder" "B" (.int 0) z.1 (fun q : Nat => s.heap.size ≤ q) s s.heap ∧ va_OF "java/lang/String" "value" "[B" (.ref z.2) z.1 (fun q : Nat => s.heap.size ≤ q) s s.heap ∧ va_T .byte z.2 (xTb j).length (fun i => .int ((xTb j).getD i 0)) (fun q : Nat => s.heap.size ≤ q) s s.heap := by
    intro j
    cases hq : xTx[j]? with
    | none => exact ⟨(0, 0), fun q h => by cases h⟩
    | some q =>
      have hj : j < 28 := by have := (List.getElem?_eq_some_iff.mp hq).1; rw [xTx_len] at this; exact this
      have e9 : (xTb j).length < 100 := by simpa using List.all_eq_true.mp xTb_small j (List.mem_range.mpr hj)
      have e8 : Cond.stringRef q.1 q.2.1 q.2.2 ∈ lw_tbl := by simpa using List.all_eq_true.mp xSr_in q (List.mem_of_getElem? hq)
      have hqd : xTx.getD j ("", 0, "") = q := by rw [List.getD_eq_getElem?_getD, hq]; rfl
      have e2 : ∀ w ∈ xSc j q, w.before #[Value.ref b] s = true := fun w hw => hnar w (List.mem_of_mem_drop (i := 7) (by rw [xSc_flat]; exact List.mem_flatMap.mpr ⟨j, List.mem_range.mpr hj, by rw [hqd]; exact hw⟩))
      have hex := e2 (.exactly (.string q.1 q.2.1) "java/lang/String") (by simp [xSc])
      have hco := e2 (.eq (.field (.string q.1 q.2.1) "java/lang/String" "coder" "B") (.int 0)) (by simp [xSc])
      have harr := e2 (.arrayOf (xSf q) .byte) (by simp [xSc])
      have hle := e2 (.eq (.length (xSf q)) (.int (Int32.ofNat (xTb j).length))) (by simp [xSc])
      have hel : ∀ i : Nat, i < (xTb j).length → (Cond.eq (.elem (xSf q) (.int (Int32.ofNat i))) (.int ((xTb j).getD i 0))).before #[Value.ref b] s = true := fun i hi => e2 _ (List.mem_append_right _ (List.mem_map.mpr ⟨i, List.mem_range.mpr hi, rfl⟩))
      obtain ⟨a, c, cC, kA, q1, q2, q3, q4, q5, q6, -⟩ := Cond.exactly_spec (args := #[Value.ref b]) (first := s) (o := none) (s := s) (idx := []) (t := .string q.1 q.2.1) (cls := "java/lang/String") hex
      obtain ⟨t, ht, hT⟩ := va_Tof (f := fun i => .int ((xTb j).getD i 0)) (A := fun q : Nat => s.heap.size ≤ q) (Nat.lt_trans e9 (by decide)) harr (va_eqt hle) (fun i hi => va_eqt (hel i hi)) hA
      refine ⟨(a, t), fun q' h' => ?_⟩
      cases h'
      exact ⟨vk_R.of (hts _ e8) q1, ⟨cC, q3, q5, by rw [q6]; exact q2, hA a (Array.getElem?_eq_some_iff.mp q3).1⟩, vk_OFof q1 (va_eqt hco) hA, vk_OFof q1 ht hA, hT⟩
  obtain ⟨ad, had⟩ := Classical.axiomOfChoice htx
  refine ⟨(l, (fun k => (dd k).1, fun k => (dd k).2), cA, (fun j => if j = 99 then b else (ad j).1, fun j => (ad j).2), s.heap, (L, xs)), rfl, rfl, rfl, rfl, ⟨fun k q hq => hdd k q hq, fun k q hq => ?_⟩, fun w hw => ?_, fun t h4 h8 C hC => ?_, ⟨fun j q hq => ?_, ?_⟩, hX⟩
  · have hk : k < 8 := (List.getElem?_eq_some_iff.mp hq).1
    rw [xtys_at _ hk] at hq
    cases hq
    exact hcA k hk
  · have hn := (List.mem_filter.mp hw).2
    have h := hts w (xN_tab hw)
    cases w <;> first | (simp [xIsN] at hn; done) | exact va_Nw.of rfl h
  · have hw : Cond.arrayOver (xty t) ∈ lw_tbl := by
      rcases (show t = 4 ∨ t = 5 ∨ t = 6 ∨ t = 7 by omega) with rfl | rfl | rfl | rfl <;> decide +kernel
    rw [hC] at hw
    exact va_AO.of (hts _ hw)
  · have hj : j < 28 := by have := (List.getElem?_eq_some_iff.mp hq).1; rw [xTx_len] at this; exact this
    have hne : ¬ j = 99 := by omega
    have := had j q hq
    show vk_R q.1 q.2.1 q.2.2 (if j = 99 then b else (ad j).1) s ∧ _
    rw [if_neg hne]
    refine ⟨this.1, ?_⟩
    show va_O "java/lang/String" (if j = 99 then b else (ad j).1) _ s s.heap ∧ va_OF "java/lang/String" "coder" "B" (.int 0) (if j = 99 then b else (ad j).1) _ s s.heap ∧ va_OF "java/lang/String" "value" "[B" (.ref (ad j).2) (if j = 99 then b else (ad j).1) _ s s.heap ∧ _
    rw [if_neg hne]
    exact this.2
  · exact va_Zof (hts (.laysStatic "java/lang/String" "COMPACT_STRINGS" "Z") (by decide +kernel)) (hts (.initialized "java/lang/String") (by decide +kernel)) (va_eqi (hnar (.eq (.static "java/lang/String" "COMPACT_STRINGS" "Z") (.int 1)) (by decide +kernel))) hA
theorem start_W {p : Program} {e : Env} {s : State} {m : MethodId} {below : List Frame} {meth : Method} {c : Code} (l : Launch) {b L : Nat} {xs : Nat → Int32} (C0 : lw_At p s m meth c b L xs) (hGo : ∀ G : xG, gN G = L → Go G mL_law 0 [some (.retAddr 99), none, none, none] [] ((0, 0), fun _ => none) (fun v h' => v = some (.int 1) ∧ Bd h')) : W p l e room_1 s m #[Value.ref b] below meth c s.heap [] 0 0 (lw_Z below #[Value.ref b] s) (entryFrame m ([Value.ref b] : List Value).toArray 4) := by
  obtain ⟨G, gl, gh, gn, gx, hK⟩ := start_Kn l C0
  obtain ⟨hx, hb, hr, hml, hown, hts, hX, hbl, hlocks, hgv⟩ := C0
  obtain ⟨v, h', ⟨hv, hB⟩, hE⟩ := hGo G gn
  subst hv
  have hl := lv_entry ([.ref b]) (n := 4) (Nat.le_of_ble_eq_true rfl)
  rw [lg_entry_eq]
  generalize (lg_sl ([.ref b]) ++ List.replicate (4 - (lg_sl ([.ref b])).length) Slot.unset).toArray = ls at hl ⊢
  have hL : xLs G mL_law [some (.retAddr 99), none, none, none] ls := ⟨hl.1, hl.2.1, fun q hq => by
    simp only [xps, List.mem_cons, List.not_mem_nil, or_false] at hq
    subst hq
    exact hl.2.2 (0, .ref b) (by simp [lv_args]) |>.trans (by rw [xv, gx])⟩
  have hsz : gB G = s.heap.size := by show (gH G).size = _; rw [gh]
  have hH : xHp G ((0, 0), fun _ => none) s.heap := ⟨by rw [hsz]; rfl, fun a c h => by cases h⟩
  have hS : xS G s.heap [] := ⟨by rw [gh]; exact Nat.le_refl _, fun q _ _ => by rw [gh], fun q hq => by cases hq⟩
  have hw := hE.2 p e room_1 s m #[Value.ref b] below meth c s.heap [] 0 0 h'.1.1 h'.1.2 (lw_Z below #[Value.ref b] s) ls ⟨hx, hb, hml, hown, fun w hw => hts w (List.mem_filter.mp hw).1, fun h9 => absurd h9 (by decide), hK, by decide, by decide⟩ hH hS hL (by simp) (by simp) hB.1 hB.2 (fun i pc ls' H locs d hi hH' hS' => by
    cases i <;> try exact hi.elim
    case ireturn =>
      refine va_forget (fun q hq => by rw [← hsz]; exact hS'.2.2 q hq) ?_
      refine W.widen (k := 600000) (n := 7302250) hB.1 hB.2 ?_
      rw [gl]
      exact lw_ret hx hb hr hlocks d
    case lreturn => obtain ⟨x, ev⟩ := hi; cases ev
    case areturn => rcases hi with ev | ⟨a, ev⟩ <;> cases ev
    case return_ => cases hi)
  rw [gl] at hw
  exact hw
end
section
/-! THE SYSTEM'S SMALL METHODS -/
abbrev cO (ic off wa : Int32) : List Value := [.ref 1, .ref 3, .ref 10, .ref 27, .ref 29, .ref 30, .ref 231, .ref 232, .int ic, .int off, .int wa]
abbrev cTp (ts a b c d : Int32) : List Value := [.ref 2, .int ts, .int a, .int b, .int c, .int d]
abbrev cKp (pd lg op dn by_ bl sv ck cl : Int32) : List Value := [.ref 11, .ref 14, .ref 17, .int pd, .int lg, .int op, .int dn, .int by_, .int bl, .int sv, .int ck, .int cl]
theorem c_wrong {G : xG} {h : xH} {ic off wa : Int32} (h0 : h.2 0 = some (.inr (9, cO ic off wa))) : Ca G mX10_wrong [.ref 0] h (fun v h' => v = some (.int wa) ∧ h' = h) := by
  refine Ca.of rfl (Nat.le_of_ble_eq_true rfl) ?_
  first | refine go_aload_n (i := 0) (pc' := 1) dX10_wrong_0 rfl rfl rfl ?_ | refine go_aloadX_n (i := 0) (pc' := 1) dX10_wrong_0 rfl rfl rfl ?_ | refine go_aload_nN (i := 0) (pc' := 1) dX10_wrong_0 rfl rfl rfl ?_
  refine go_getf (pc' := 4) dX10_wrong_1 rfl gf_LandBase_70 h0 rfl ?_
  exact Go.ret (v := some (.int _)) dX10_wrong_4 ⟨_, rfl⟩ ⟨rfl,rfl,rfl⟩
theorem c_outputs {G : xG} {h : xH} {ic off wa : Int32} (h0 : h.2 0 = some (.inr (9, cO ic off wa))) : Ca G mX10_outputs [.ref 0] h (fun v h' => v = some (.int ic) ∧ h' = h) := by
  refine Ca.of rfl (Nat.le_of_ble_eq_true rfl) ?_
  first | refine go_aload_n (i := 0) (pc' := 1) dX10_outputs_0 rfl rfl rfl ?_ | refine go_aloadX_n (i := 0) (pc' := 1) dX10_outputs_0 rfl rfl rfl ?_ | refine go_aload_nN (i := 0) (pc' := 1) dX10_outputs_0 rfl rfl rfl ?_
  refine go_getf (pc' := 4) dX10_outputs_1 rfl gf_LandBase_63 h0 rfl ?_
  exact Go.ret (v := some (.int _)) dX10_outputs_4 ⟨_, rfl⟩ ⟨rfl,rfl,rfl⟩
/-- the i-th of n ints -/
def outV (f : Nat → Int32) (n : Nat) (i : Int32) : Int32 := if i < 0 ∨ nI n ≤ i then 0 else f i.toNatClampNeg
theorem c_out {G : xG} {h : xH} {n : Nat} {off wa i : Int32} {f : Nat → Int32} (hn : n ≤ 20000) (h0 : h.2 0 = some (.inr (9, cO (nI n) off wa))) (h232 : h.2 232 = some (.inl (0, 20000, .inl f))) : Ca G mX10_out [.ref 0, .int i] h (fun v h' => v = some (.int (outV f n i)) ∧ h' = h) := by
  refine Ca.of rfl (Nat.le_of_ble_eq_true rfl) ?_
  refine go_iload_n (i := 1) (pc' := 1) dX10_out_0 rfl rfl rfl ?_
  refine go_if_lt (pc' := 4) (tgt := 21) dX10_out_1 (by decide) rfl (fun c1 => ?_) (fun c1 => ?_)
  · refine go_iconst (v := 0) (pc' := 22) dX10_out_21 rfl (by decide) ?_
    rw [outV, if_pos (Or.inl c1)]
    exact Go.ret (v := some (.int _)) dX10_out_22 ⟨_, rfl⟩ ⟨rfl,rfl,rfl⟩
  · refine go_iload_n (i := 1) (pc' := 5) dX10_out_4 rfl rfl rfl ?_
    first | refine go_aload_n (i := 0) (pc' := 6) dX10_out_5 rfl rfl rfl ?_ | refine go_aloadX_n (i := 0) (pc' := 6) dX10_out_5 rfl rfl rfl ?_ | refine go_aload_nN (i := 0) (pc' := 6) dX10_out_5 rfl rfl rfl ?_
    refine go_getf (pc' := 9) dX10_out_6 rfl gf_LandBase_63 h0 rfl ?_
    refine go_icmp_ge (pc' := 12) (tgt := 21) dX10_out_9 (by decide) rfl (fun c2 => ?_) (fun c2 => ?_)
    · refine go_iconst (v := 0) (pc' := 22) dX10_out_21 rfl (by decide) ?_
      rw [outV, if_pos (Or.inr c2)]
      exact Go.ret (v := some (.int _)) dX10_out_22 ⟨_, rfl⟩ ⟨rfl,rfl,rfl⟩
    · obtain ⟨j, hj, e1⟩ : ∃ j, j < n ∧ i = nI j := by
        rcases pk_ix i (n := n) (by omega) with q | q | q
        · exact absurd q c1
        · exact absurd q c2
        · exact q
      subst e1
      have hin : vp_in (nI j) 20000 := vp_in_nI (by omega) (by omega)
      first | refine go_aload_n (i := 0) (pc' := 13) dX10_out_12 rfl rfl rfl ?_ | refine go_aloadX_n (i := 0) (pc' := 13) dX10_out_12 rfl rfl rfl ?_ | refine go_aload_nN (i := 0) (pc' := 13) dX10_out_12 rfl rfl rfl ?_
      refine go_getf (pc' := 16) dX10_out_13 rfl gf_LandBase_60 h0 rfl ?_
      refine go_iload_n (i := 1) (pc' := 17) dX10_out_16 rfl rfl rfl ?_
      refine go_iaload (pc' := 18) dX10_out_17 rfl h232 hin ?_
      refine go_goto (pc' := 0) (tgt := 22) dX10_out_18 (by decide) ?_
      rw [outV, if_neg (fun q => q.elim c1 c2)]
      exact Go.ret (v := some (.int _)) dX10_out_22 ⟨_, rfl⟩ ⟨rfl,rfl,rfl⟩
theorem bool_ok {x : Int32} (h : x = 0 ∨ x = 1) : narrow .boolean (.int x) = .int x := by rcases h with rfl | rfl <;> decide
theorem c_isDown {G : xG} {h : xH} {ic off wa pd lg op dn by_ bl sv ck cl : Int32} (hb : dn = 0 ∨ dn = 1) (h0 : h.2 0 = some (.inr (9, cO ic off wa))) (h10 : h.2 10 = some (.inr (3, cKp pd lg op dn by_ bl sv ck cl))) : Ca G mX10_isDown [.ref 0] h (fun v h' => v = some (.int dn) ∧ h' = h) := by
  refine Ca.of rfl (Nat.le_of_ble_eq_true rfl) ?_
  first | refine go_aload_n (i := 0) (pc' := 1) dX10_isDown_0 rfl rfl rfl ?_ | refine go_aloadX_n (i := 0) (pc' := 1) dX10_isDown_0 rfl rfl rfl ?_ | refine go_aload_nN (i := 0) (pc' := 1) dX10_isDown_0 rfl rfl rfl ?_
  refine go_getf (pc' := 4) dX10_isDown_1 rfl gf_LandBase_26 h0 rfl ?_
  refine go_getf (pc' := 7) dX10_isDown_4 rfl gf_LandBase_80 h10 rfl ?_
  exact Go.ret (v := some (.int _)) dX10_isDown_7 ⟨_, rfl⟩ ⟨(bool_ok hb),rfl,rfl⟩
theorem c_isOpen {G : xG} {h : xH} {ic off wa pd lg op dn by_ bl sv ck cl : Int32} (h0 : h.2 0 = some (.inr (9, cO ic off wa))) (h10 : h.2 10 = some (.inr (3, cKp pd lg op dn by_ bl sv ck cl))) : Ca G mX10_isOpen [.ref 0] h (fun v h' => v = some (.int (if op = 0 ∨ ¬ dn = 0 then 0 else 1)) ∧ h' = h) := by
  refine Ca.of rfl (Nat.le_of_ble_eq_true rfl) ?_
  first | refine go_aload_n (i := 0) (pc' := 1) dX10_isOpen_0 rfl rfl rfl ?_ | refine go_aloadX_n (i := 0) (pc' := 1) dX10_isOpen_0 rfl rfl rfl ?_ | refine go_aload_nN (i := 0) (pc' := 1) dX10_isOpen_0 rfl rfl rfl ?_
  refine go_getf (pc' := 4) dX10_isOpen_1 rfl gf_LandBase_26 h0 rfl ?_
  refine go_getf (pc' := 7) dX10_isOpen_4 rfl gf_LandBase_154 h10 rfl ?_
  refine go_if_eq (pc' := 10) (tgt := 24) dX10_isOpen_7 (by decide) rfl (fun c1 => ?_) (fun c1 => ?_)
  · refine go_iconst (v := 0) (pc' := 25) dX10_isOpen_24 rfl (by decide) ?_
    rw [if_pos (Or.inl c1)]
    exact Go.ret (v := some (.int _)) dX10_isOpen_25 ⟨_, rfl⟩ ⟨(bool_ok (by decide)),rfl,rfl⟩
  · first | refine go_aload_n (i := 0) (pc' := 11) dX10_isOpen_10 rfl rfl rfl ?_ | refine go_aloadX_n (i := 0) (pc' := 11) dX10_isOpen_10 rfl rfl rfl ?_ | refine go_aload_nN (i := 0) (pc' := 11) dX10_isOpen_10 rfl rfl rfl ?_
    refine go_getf (pc' := 14) dX10_isOpen_11 rfl gf_LandBase_26 h0 rfl ?_
    refine go_getf (pc' := 17) dX10_isOpen_14 rfl gf_LandBase_80 h10 rfl ?_
    refine go_if_ne (pc' := 20) (tgt := 24) dX10_isOpen_17 (by decide) rfl (fun c2 => ?_) (fun c2 => ?_)
    · refine go_iconst (v := 0) (pc' := 25) dX10_isOpen_24 rfl (by decide) ?_
      rw [if_pos (Or.inr c2)]
      exact Go.ret (v := some (.int _)) dX10_isOpen_25 ⟨_, rfl⟩ ⟨(bool_ok (by decide)),rfl,rfl⟩
    · refine go_iconst (v := 1) (pc' := 21) dX10_isOpen_20 rfl (by decide) ?_
      refine go_goto (pc' := 0) (tgt := 25) dX10_isOpen_21 (by decide) ?_
      rw [if_neg (fun q => q.elim c1 (fun z => z c2))]
      exact Go.ret (v := some (.int _)) dX10_isOpen_25 ⟨_, rfl⟩ ⟨(bool_ok (by decide)),rfl,rfl⟩
theorem c_live {G : xG} {h : xH} {ic off wa pd lg op dn by_ bl sv ck cl n : Int32} {a b : Value} (h0 : h.2 0 = some (.inr (9, cO ic off wa))) (h10 : h.2 10 = some (.inr (3, cKp pd lg op dn by_ bl sv ck cl))) (h11 : h.2 11 = some (.inr (7, [a, b, .int n]))) : Ca G mX10_live [.ref 0] h (fun v h' => v = some (.int (if dn = 0 then n else -1)) ∧ h' = h) := by
  refine Ca.of rfl (Nat.le_of_ble_eq_true rfl) ?_
  first | refine go_aload_n (i := 0) (pc' := 1) dX10_live_0 rfl rfl rfl ?_ | refine go_aloadX_n (i := 0) (pc' := 1) dX10_live_0 rfl rfl rfl ?_ | refine go_aload_nN (i := 0) (pc' := 1) dX10_live_0 rfl rfl rfl ?_
  refine go_getf (pc' := 4) dX10_live_1 rfl gf_LandBase_26 h0 rfl ?_
  refine go_getf (pc' := 7) dX10_live_4 rfl gf_LandBase_80 h10 rfl ?_
  refine go_if_eq (pc' := 10) (tgt := 14) dX10_live_7 (by decide) rfl (fun c1 => ?_) (fun c1 => ?_)
  · first | refine go_aload_n (i := 0) (pc' := 15) dX10_live_14 rfl rfl rfl ?_ | refine go_aloadX_n (i := 0) (pc' := 15) dX10_live_14 rfl rfl rfl ?_ | refine go_aload_nN (i := 0) (pc' := 15) dX10_live_14 rfl rfl rfl ?_
    refine go_getf (pc' := 18) dX10_live_15 rfl gf_LandBase_26 h0 rfl ?_
    refine go_getf (pc' := 21) dX10_live_18 rfl gf_LandBase_145 h10 rfl ?_
    refine go_getf (pc' := 24) dX10_live_21 rfl gf_LandBase_149 h11 rfl ?_
    rw [if_pos c1]
    exact Go.ret (v := some (.int _)) dX10_live_24 ⟨_, rfl⟩ ⟨rfl,rfl,rfl⟩
  · refine go_iconst (v := (-1)) (pc' := 11) dX10_live_10 rfl (by decide) ?_
    refine go_goto (pc' := 0) (tgt := 24) dX10_live_11 (by decide) ?_
    rw [if_neg c1]
    exact Go.ret (v := some (.int _)) dX10_live_24 ⟨_, rfl⟩ ⟨rfl,rfl,rfl⟩
theorem c_used {G : xG} {h : xH} {ic off wa pd lg op dn by_ bl sv ck cl : Int32} (h0 : h.2 0 = some (.inr (9, cO ic off wa))) (h10 : h.2 10 = some (.inr (3, cKp pd lg op dn by_ bl sv ck cl))) : Ca G mX10_used [.ref 0] h (fun v h' => v = some (.int (if dn = 0 then bl else -1)) ∧ h' = h) := by
  refine Ca.of rfl (Nat.le_of_ble_eq_true rfl) ?_
  first | refine go_aload_n (i := 0) (pc' := 1) dX10_used_0 rfl rfl rfl ?_ | refine go_aloadX_n (i := 0) (pc' := 1) dX10_used_0 rfl rfl rfl ?_ | refine go_aload_nN (i := 0) (pc' := 1) dX10_used_0 rfl rfl rfl ?_
  refine go_getf (pc' := 4) dX10_used_1 rfl gf_LandBase_26 h0 rfl ?_
  refine go_getf (pc' := 7) dX10_used_4 rfl gf_LandBase_80 h10 rfl ?_
  refine go_if_eq (pc' := 10) (tgt := 14) dX10_used_7 (by decide) rfl (fun c1 => ?_) (fun c1 => ?_)
  · first | refine go_aload_n (i := 0) (pc' := 15) dX10_used_14 rfl rfl rfl ?_ | refine go_aloadX_n (i := 0) (pc' := 15) dX10_used_14 rfl rfl rfl ?_ | refine go_aload_nN (i := 0) (pc' := 15) dX10_used_14 rfl rfl rfl ?_
    refine go_getf (pc' := 18) dX10_used_15 rfl gf_LandBase_26 h0 rfl ?_
    refine go_getf (pc' := 21) dX10_used_18 rfl gf_LandBase_195 h10 rfl ?_
    rw [if_pos c1]
    exact Go.ret (v := some (.int _)) dX10_used_21 ⟨_, rfl⟩ ⟨rfl,rfl,rfl⟩
  · refine go_iconst (v := (-1)) (pc' := 11) dX10_used_10 rfl (by decide) ?_
    refine go_goto (pc' := 0) (tgt := 21) dX10_used_11 (by decide) ?_
    rw [if_neg c1]
    exact Go.ret (v := some (.int _)) dX10_used_21 ⟨_, rfl⟩ ⟨rfl,rfl,rfl⟩
theorem c_saves {G : xG} {h : xH} {ic off wa pd lg op dn by_ bl sv ck cl : Int32} (h0 : h.2 0 = some (.inr (9, cO ic off wa))) (h10 : h.2 10 = some (.inr (3, cKp pd lg op dn by_ bl sv ck cl))) : Ca G mX10_saves [.ref 0] h (fun v h' => v = some (.int sv) ∧ h' = h) := by
  refine Ca.of rfl (Nat.le_of_ble_eq_true rfl) ?_
  first | refine go_aload_n (i := 0) (pc' := 1) dX10_saves_0 rfl rfl rfl ?_ | refine go_aloadX_n (i := 0) (pc' := 1) dX10_saves_0 rfl rfl rfl ?_ | refine go_aload_nN (i := 0) (pc' := 1) dX10_saves_0 rfl rfl rfl ?_
  refine go_getf (pc' := 4) dX10_saves_1 rfl gf_LandBase_26 h0 rfl ?_
  refine go_getf (pc' := 7) dX10_saves_4 rfl gf_LandBase_198 h10 rfl ?_
  exact Go.ret (v := some (.int _)) dX10_saves_7 ⟨_, rfl⟩ ⟨rfl,rfl,rfl⟩
/-- the i-th id -/
def idV (dn : Int32) (f : Nat → Int32) (n : Nat) (i : Int32) : Int32 := if ¬ dn = 0 ∨ i < 0 ∨ nI n ≤ i then -1 else f i.toNatClampNeg
theorem c_idAt {G : xG} {h : xH} {ic off wa pd lg op dn by_ bl sv ck cl i : Int32} {n : Nat} {f : Nat → Int32} {b : Value} (hn : n ≤ 200) (h0 : h.2 0 = some (.inr (9, cO ic off wa))) (h10 : h.2 10 = some (.inr (3, cKp pd lg op dn by_ bl sv ck cl))) (h11 : h.2 11 = some (.inr (7, [.ref 12, b, .int (nI n)]))) (h12 : h.2 12 = some (.inl (0, 200, .inl f))) : Ca G mX10_idAt [.ref 0, .int i] h (fun v h' => v = some (.int (idV dn f n i)) ∧ h' = h) := by
  refine Ca.of rfl (Nat.le_of_ble_eq_true rfl) ?_
  first | refine go_aload_n (i := 0) (pc' := 1) dX10_idAt_0 rfl rfl rfl ?_ | refine go_aloadX_n (i := 0) (pc' := 1) dX10_idAt_0 rfl rfl rfl ?_ | refine go_aload_nN (i := 0) (pc' := 1) dX10_idAt_0 rfl rfl rfl ?_
  refine go_getf (pc' := 4) dX10_idAt_1 rfl gf_LandBase_26 h0 rfl ?_
  refine go_getf (pc' := 7) dX10_idAt_4 rfl gf_LandBase_80 h10 rfl ?_
  refine go_if_ne (pc' := 10) (tgt := 28) dX10_idAt_7 (by decide) rfl (fun c1 => ?_) (fun c1 => ?_)
  · refine go_iconst (v := (-1)) (pc' := 29) dX10_idAt_28 rfl (by decide) ?_
    rw [idV, if_pos (Or.inl c1)]
    exact Go.ret (v := some (.int _)) dX10_idAt_29 ⟨_, rfl⟩ ⟨rfl,rfl,rfl⟩
  · refine go_iload_n (i := 1) (pc' := 11) dX10_idAt_10 rfl rfl rfl ?_
    refine go_if_lt (pc' := 14) (tgt := 28) dX10_idAt_11 (by decide) rfl (fun c2 => ?_) (fun c2 => ?_)
    · refine go_iconst (v := (-1)) (pc' := 29) dX10_idAt_28 rfl (by decide) ?_
      rw [idV, if_pos (Or.inr (Or.inl c2))]
      exact Go.ret (v := some (.int _)) dX10_idAt_29 ⟨_, rfl⟩ ⟨rfl,rfl,rfl⟩
    · refine go_iload_n (i := 1) (pc' := 15) dX10_idAt_14 rfl rfl rfl ?_
      first | refine go_aload_n (i := 0) (pc' := 16) dX10_idAt_15 rfl rfl rfl ?_ | refine go_aloadX_n (i := 0) (pc' := 16) dX10_idAt_15 rfl rfl rfl ?_ | refine go_aload_nN (i := 0) (pc' := 16) dX10_idAt_15 rfl rfl rfl ?_
      refine go_getf (pc' := 19) dX10_idAt_16 rfl gf_LandBase_26 h0 rfl ?_
      refine go_getf (pc' := 22) dX10_idAt_19 rfl gf_LandBase_145 h10 rfl ?_
      refine go_getf (pc' := 25) dX10_idAt_22 rfl gf_LandBase_149 h11 rfl ?_
      refine go_icmp_lt (pc' := 28) (tgt := 30) dX10_idAt_25 (by decide) rfl (fun c3 => ?_) (fun c3 => ?_)
      · obtain ⟨j, hj, e1⟩ : ∃ j, j < n ∧ i = nI j := by
          rcases pk_ix i (n := n) (by omega) with q | q | q
          · exact absurd q c2
          · exact absurd c3 (Int32.not_lt.mpr q)
          · exact q
        subst e1
        have hin : vp_in (nI j) 200 := vp_in_nI (by omega) (by omega)
        first | refine go_aload_n (i := 0) (pc' := 31) dX10_idAt_30 rfl rfl rfl ?_ | refine go_aloadX_n (i := 0) (pc' := 31) dX10_idAt_30 rfl rfl rfl ?_ | refine go_aload_nN (i := 0) (pc' := 31) dX10_idAt_30 rfl rfl rfl ?_
        refine go_getf (pc' := 34) dX10_idAt_31 rfl gf_LandBase_26 h0 rfl ?_
        refine go_getf (pc' := 37) dX10_idAt_34 rfl gf_LandBase_145 h10 rfl ?_
        refine go_getf (pc' := 40) dX10_idAt_37 rfl gf_LandBase_157 h11 rfl ?_
        refine go_iload_n (i := 1) (pc' := 41) dX10_idAt_40 rfl rfl rfl ?_
        refine go_iaload (pc' := 42) dX10_idAt_41 rfl h12 hin ?_
        rw [idV, if_neg (fun q => q.elim (fun z => z c1) (fun z => z.elim c2 (fun y => (Int32.not_lt.mpr y) c3)))]
        exact Go.ret (v := some (.int _)) dX10_idAt_42 ⟨_, rfl⟩ ⟨rfl,rfl,rfl⟩
      · refine go_iconst (v := (-1)) (pc' := 29) dX10_idAt_28 rfl (by decide) ?_
        rw [idV, if_pos (Or.inr (Or.inr (Int32.not_lt.mp c3)))]
        exact Go.ret (v := some (.int _)) dX10_idAt_29 ⟨_, rfl⟩ ⟨rfl,rfl,rfl⟩
/-- whether a crash() is taken -/
def crOk (dn k n t : Int32) : Prop := ¬ (¬ dn = 0 ∨ k < 0 ∨ 1 < k ∨ n < 1 ∨ 1000 < n ∨ t < 0 ∨ 200 < t)
theorem c_crash {G : xG} {h : xH} {ic off wa pd lg op dn by_ bl sv ck cl k n t : Int32} (h0 : h.2 0 = some (.inr (9, cO ic off wa))) (h10 : h.2 10 = some (.inr (3, cKp pd lg op dn by_ bl sv ck cl))) : Ca G mX10_crash [.ref 0, .int k, .int n, .int t] h (fun v h' => (¬ crOk dn k n t ∧ v = some (.int 0) ∧ h' = h) ∨ (crOk dn k n t ∧ v = some (.int 1) ∧ h'.1 = h.1 ∧ h'.2 10 = some (.inr (3, cKp pd lg op dn by_ bl sv k n)) ∧ ∀ b, b ≠ 10 → h'.2 b = h.2 b)) := by
  refine Ca.of rfl (Nat.le_of_ble_eq_true rfl) ?_
  have hz : h.1 = h.1 := rfl
  first | refine go_aload_n (i := 0) (pc' := 1) dX10_crash_0 rfl rfl rfl ?_ | refine go_aloadX_n (i := 0) (pc' := 1) dX10_crash_0 rfl rfl rfl ?_ | refine go_aload_nN (i := 0) (pc' := 1) dX10_crash_0 rfl rfl rfl ?_
  refine go_getf (pc' := 4) dX10_crash_1 rfl gf_LandBase_26 h0 rfl ?_
  refine go_getf (pc' := 7) dX10_crash_4 rfl gf_LandBase_80 h10 rfl ?_
  refine go_if_ne (pc' := 10) (tgt := 42) dX10_crash_7 (by decide) rfl (fun c1 => ?_) (fun c1 => ?_)
  · refine go_iconst (v := 0) (pc' := 43) dX10_crash_42 rfl (by decide) ?_
    exact Go.ret (v := some (.int _)) dX10_crash_43 ⟨_, rfl⟩ ⟨(bool_ok (by decide)),(Or.inl ⟨fun q => q (Or.inl c1), rfl, rfl⟩)⟩
  · refine go_iload_n (i := 1) (pc' := 11) dX10_crash_10 rfl rfl rfl ?_
    refine go_if_lt (pc' := 14) (tgt := 42) dX10_crash_11 (by decide) rfl (fun c2 => ?_) (fun c2 => ?_)
    · refine go_iconst (v := 0) (pc' := 43) dX10_crash_42 rfl (by decide) ?_
      exact Go.ret (v := some (.int _)) dX10_crash_43 ⟨_, rfl⟩ ⟨(bool_ok (by decide)),(Or.inl ⟨fun q => q (Or.inr (Or.inl c2)), rfl, rfl⟩)⟩
    · refine go_iload_n (i := 1) (pc' := 15) dX10_crash_14 rfl rfl rfl ?_
      refine go_iconst (v := 1) (pc' := 16) dX10_crash_15 rfl (by decide) ?_
      refine go_icmp_gt (pc' := 19) (tgt := 42) dX10_crash_16 (by decide) rfl (fun c3 => ?_) (fun c3 => ?_)
      · refine go_iconst (v := 0) (pc' := 43) dX10_crash_42 rfl (by decide) ?_
        exact Go.ret (v := some (.int _)) dX10_crash_43 ⟨_, rfl⟩ ⟨(bool_ok (by decide)),(Or.inl ⟨fun q => q (Or.inr (Or.inr (Or.inl c3))), rfl, rfl⟩)⟩
      · refine go_iload_n (i := 2) (pc' := 20) dX10_crash_19 rfl rfl rfl ?_
        refine go_iconst (v := 1) (pc' := 21) dX10_crash_20 rfl (by decide) ?_
        refine go_icmp_lt (pc' := 24) (tgt := 42) dX10_crash_21 (by decide) rfl (fun c4 => ?_) (fun c4 => ?_)
        · refine go_iconst (v := 0) (pc' := 43) dX10_crash_42 rfl (by decide) ?_
          exact Go.ret (v := some (.int _)) dX10_crash_43 ⟨_, rfl⟩ ⟨(bool_ok (by decide)),(Or.inl ⟨fun q => q (Or.inr (Or.inr (Or.inr (Or.inl c4)))), rfl, rfl⟩)⟩
        · refine go_iload_n (i := 2) (pc' := 25) dX10_crash_24 rfl rfl rfl ?_
          refine go_sipush (v := 1000) (pc' := 28) dX10_crash_25 rfl (by decide) ?_
          refine go_icmp_gt (pc' := 31) (tgt := 42) dX10_crash_28 (by decide) rfl (fun c5 => ?_) (fun c5 => ?_)
          · refine go_iconst (v := 0) (pc' := 43) dX10_crash_42 rfl (by decide) ?_
            exact Go.ret (v := some (.int _)) dX10_crash_43 ⟨_, rfl⟩ ⟨(bool_ok (by decide)),(Or.inl ⟨fun q => q (Or.inr (Or.inr (Or.inr (Or.inr (Or.inl c5))))), rfl, rfl⟩)⟩
          · refine go_iload_n (i := 3) (pc' := 32) dX10_crash_31 rfl rfl rfl ?_
            refine go_if_lt (pc' := 35) (tgt := 42) dX10_crash_32 (by decide) rfl (fun c6 => ?_) (fun c6 => ?_)
            · refine go_iconst (v := 0) (pc' := 43) dX10_crash_42 rfl (by decide) ?_
              exact Go.ret (v := some (.int _)) dX10_crash_43 ⟨_, rfl⟩ ⟨(bool_ok (by decide)),(Or.inl ⟨fun q => q (Or.inr (Or.inr (Or.inr (Or.inr (Or.inr (Or.inl c6)))))), rfl, rfl⟩)⟩
            · refine go_iload_n (i := 3) (pc' := 36) dX10_crash_35 rfl rfl rfl ?_
              refine go_sipush (v := 200) (pc' := 39) dX10_crash_36 rfl (by decide) ?_
              refine go_icmp_le (pc' := 42) (tgt := 44) dX10_crash_39 (by decide) rfl (fun c7 => ?_) (fun c7 => ?_)
              · have hfr : ∀ b, (b ≠ 10) → h.2 b = h.2 b := fun _ _ => rfl
                first | refine go_aload_n (i := 0) (pc' := 45) dX10_crash_44 rfl rfl rfl ?_ | refine go_aloadX_n (i := 0) (pc' := 45) dX10_crash_44 rfl rfl rfl ?_ | refine go_aload_nN (i := 0) (pc' := 45) dX10_crash_44 rfl rfl rfl ?_
                refine go_getf (pc' := 48) dX10_crash_45 rfl gf_LandBase_26 h0 rfl ?_
                refine go_iload_n (i := 1) (pc' := 49) dX10_crash_48 rfl rfl rfl ?_
                refine go_putfK (pc' := 52) dX10_crash_49 rfl pf_LandBase_136 (fun h => by cases h) h10 (Nat.le_of_ble_eq_true rfl) rfl rfl (fun hp1 zp1 cp1 fp1 => ?_)
                dsimp only [List.set] at cp1
                have hz := zp1.trans hz
                have h0 := (fp1 _ (by omega)).trans h0
                have hfr : ∀ b, (b ≠ 10) → hp1.2 b = h.2 b := fun b hb => (fp1 b (by omega)).trans (hfr b hb)
                have h10 := cp1
                first | refine go_aload_n (i := 0) (pc' := 53) dX10_crash_52 rfl rfl rfl ?_ | refine go_aloadX_n (i := 0) (pc' := 53) dX10_crash_52 rfl rfl rfl ?_ | refine go_aload_nN (i := 0) (pc' := 53) dX10_crash_52 rfl rfl rfl ?_
                refine go_getf (pc' := 56) dX10_crash_53 rfl gf_LandBase_26 h0 rfl ?_
                refine go_iload_n (i := 2) (pc' := 57) dX10_crash_56 rfl rfl rfl ?_
                refine go_putfK (pc' := 60) dX10_crash_57 rfl pf_LandBase_139 (fun h => by cases h) h10 (Nat.le_of_ble_eq_true rfl) rfl rfl (fun hp2 zp2 cp2 fp2 => ?_)
                dsimp only [List.set] at cp2
                have hz := zp2.trans hz
                have h0 := (fp2 _ (by omega)).trans h0
                have hfr : ∀ b, (b ≠ 10) → hp2.2 b = h.2 b := fun b hb => (fp2 b (by omega)).trans (hfr b hb)
                have h10 := cp2
                refine go_iconst (v := 1) (pc' := 61) dX10_crash_60 rfl (by decide) ?_
                exact Go.ret (v := some (.int _)) dX10_crash_61 ⟨_, rfl⟩ ⟨(bool_ok (by decide)),(Or.inr ⟨fun q => by rcases q with q | q | q | q | q | q | q; exact q c1; exact c2 q; exact c3 q; exact c4 q; exact c5 q; exact c6 q; exact (Int32.not_lt.mpr c7) q, rfl, hz, h10, hfr⟩)⟩
              · refine go_iconst (v := 0) (pc' := 43) dX10_crash_42 rfl (by decide) ?_
                exact Go.ret (v := some (.int _)) dX10_crash_43 ⟨_, rfl⟩ ⟨(bool_ok (by decide)),(Or.inl ⟨fun q => q (Or.inr (Or.inr (Or.inr (Or.inr (Or.inr (Or.inr (Int32.not_le.mp c7))))))), rfl, rfl⟩)⟩
/-- whether end(n) is taken -/
def enOk (ts : Nat) (n : Int32) : Prop := ¬ (n < 0 ∨ 40 < n ∨ nI ts < 40 - n)
theorem c_end {G : xG} {h : xH} {ic off wa a b c d n : Int32} {ts : Nat} (h0 : h.2 0 = some (.inr (9, cO ic off wa))) (h1 : h.2 1 = some (.inr (8, cTp (nI ts) a b c d))) : Ca G mX10_end [.ref 0, .int n] h (fun v h' => (¬ enOk ts n ∧ v = some (.int (-1)) ∧ h' = h) ∨ (enOk ts n ∧ v = some (.int (nI ts - (40 - n))) ∧ h'.1 = h.1 ∧ h'.2 1 = some (.inr (8, cTp (nI ts - (40 - n)) a b c d)) ∧ ∀ b, b ≠ 1 → h'.2 b = h.2 b)) := by
  refine Ca.of rfl (Nat.le_of_ble_eq_true rfl) ?_
  have hz : h.1 = h.1 := rfl
  refine go_iload_n (i := 1) (pc' := 1) dX10_end_0 rfl rfl rfl ?_
  refine go_if_lt (pc' := 4) (tgt := 24) dX10_end_1 (by decide) rfl (fun c1 => ?_) (fun c1 => ?_)
  · refine go_iconst (v := (-1)) (pc' := 25) dX10_end_24 rfl (by decide) ?_
    exact Go.ret (v := some (.int _)) dX10_end_25 ⟨_, rfl⟩ ⟨rfl,(Or.inl ⟨fun q => q (Or.inl c1), rfl, rfl⟩)⟩
  · refine go_iload_n (i := 1) (pc' := 5) dX10_end_4 rfl rfl rfl ?_
    refine go_bipush (v := 40) (pc' := 7) dX10_end_5 rfl (by decide) ?_
    refine go_icmp_gt (pc' := 10) (tgt := 24) dX10_end_7 (by decide) rfl (fun c2 => ?_) (fun c2 => ?_)
    · refine go_iconst (v := (-1)) (pc' := 25) dX10_end_24 rfl (by decide) ?_
      exact Go.ret (v := some (.int _)) dX10_end_25 ⟨_, rfl⟩ ⟨rfl,(Or.inl ⟨fun q => q (Or.inr (Or.inl c2)), rfl, rfl⟩)⟩
    · first | refine go_aload_n (i := 0) (pc' := 11) dX10_end_10 rfl rfl rfl ?_ | refine go_aloadX_n (i := 0) (pc' := 11) dX10_end_10 rfl rfl rfl ?_ | refine go_aload_nN (i := 0) (pc' := 11) dX10_end_10 rfl rfl rfl ?_
      refine go_getf (pc' := 14) dX10_end_11 rfl gf_LandBase_10 h0 rfl ?_
      refine go_getf (pc' := 17) dX10_end_14 rfl gf_LandBase_73 h1 rfl ?_
      refine go_bipush (v := 40) (pc' := 19) dX10_end_17 rfl (by decide) ?_
      refine go_iload_n (i := 1) (pc' := 20) dX10_end_19 rfl rfl rfl ?_
      refine go_isub (pc' := 21) dX10_end_20 rfl ?_
      refine go_icmp_ge (pc' := 24) (tgt := 26) dX10_end_21 (by decide) rfl (fun c3 => ?_) (fun c3 => ?_)
      · have hfr : ∀ b, (b ≠ 1) → h.2 b = h.2 b := fun _ _ => rfl
        first | refine go_aload_n (i := 0) (pc' := 27) dX10_end_26 rfl rfl rfl ?_ | refine go_aloadX_n (i := 0) (pc' := 27) dX10_end_26 rfl rfl rfl ?_ | refine go_aload_nN (i := 0) (pc' := 27) dX10_end_26 rfl rfl rfl ?_
        refine go_getf (pc' := 30) dX10_end_27 rfl gf_LandBase_10 h0 rfl ?_
        refine go_dup (pc' := 31) dX10_end_30 rfl rfl ?_
        refine go_getf (pc' := 34) dX10_end_31 rfl gf_LandBase_73 h1 rfl ?_
        refine go_bipush (v := 40) (pc' := 36) dX10_end_34 rfl (by decide) ?_
        refine go_iload_n (i := 1) (pc' := 37) dX10_end_36 rfl rfl rfl ?_
        refine go_isub (pc' := 38) dX10_end_37 rfl ?_
        refine go_isub (pc' := 39) dX10_end_38 rfl ?_
        refine go_putfK (pc' := 42) dX10_end_39 rfl pf_LandBase_73 (fun h => by cases h) h1 (Nat.le_of_ble_eq_true rfl) rfl rfl (fun hp1 zp1 cp1 fp1 => ?_)
        dsimp only [List.set] at cp1
        have hz := zp1.trans hz
        have h0 := (fp1 _ (by omega)).trans h0
        have hfr : ∀ b, (b ≠ 1) → hp1.2 b = h.2 b := fun b hb => (fp1 b (by omega)).trans (hfr b hb)
        have h1 := cp1
        first | refine go_aload_n (i := 0) (pc' := 43) dX10_end_42 rfl rfl rfl ?_ | refine go_aloadX_n (i := 0) (pc' := 43) dX10_end_42 rfl rfl rfl ?_ | refine go_aload_nN (i := 0) (pc' := 43) dX10_end_42 rfl rfl rfl ?_
        refine go_getf (pc' := 46) dX10_end_43 rfl gf_LandBase_10 h0 rfl ?_
        refine go_getf (pc' := 49) dX10_end_46 rfl gf_LandBase_73 h1 rfl ?_
        exact Go.ret (v := some (.int _)) dX10_end_49 ⟨_, rfl⟩ ⟨rfl,(Or.inr ⟨fun q => q.elim c1 (fun z => z.elim c2 (Int32.not_lt.mpr c3)), rfl, hz, h1, hfr⟩)⟩
      · refine go_iconst (v := (-1)) (pc' := 25) dX10_end_24 rfl (by decide) ?_
        exact Go.ret (v := some (.int _)) dX10_end_25 ⟨_, rfl⟩ ⟨rfl,(Or.inl ⟨fun q => q (Or.inr (Or.inr (Int32.not_le.mp c3))), rfl, rfl⟩)⟩
end
section
/-! THE REFERENCE'S SMALL METHODS -/
theorem r_wrong {G : xG} {h : xH} {F : Nat → Value} {wa : Int32} (hM : h.2 233 = some (.inr (13, mkF F 58))) (hw : F 42 = .int wa) : Ca G mX14_wrong [.ref 233] h (fun v h' => v = some (.int wa) ∧ h' = h) := by
  refine Ca.of rfl (Nat.le_of_ble_eq_true rfl) ?_
  first | refine go_aload_n (i := 0) (pc' := 1) dX14_wrong_0 rfl rfl rfl ?_ | refine go_aloadX_n (i := 0) (pc' := 1) dX14_wrong_0 rfl rfl rfl ?_ | refine go_aload_nN (i := 0) (pc' := 1) dX14_wrong_0 rfl rfl rfl ?_
  refine go_getfF (pc' := 4) dX14_wrong_1 rfl gf_LandBaseModel_370 hM (by decide) hw ?_
  exact Go.ret (v := some (.int _)) dX14_wrong_4 ⟨_, rfl⟩ ⟨rfl,rfl,rfl⟩
theorem r_outputs {G : xG} {h : xH} {F : Nat → Value} {ic : Int32} (hM : h.2 233 = some (.inr (13, mkF F 58))) (hw : F 44 = .int ic) : Ca G mX14_outputs [.ref 233] h (fun v h' => v = some (.int ic) ∧ h' = h) := by
  refine Ca.of rfl (Nat.le_of_ble_eq_true rfl) ?_
  first | refine go_aload_n (i := 0) (pc' := 1) dX14_outputs_0 rfl rfl rfl ?_ | refine go_aloadX_n (i := 0) (pc' := 1) dX14_outputs_0 rfl rfl rfl ?_ | refine go_aload_nN (i := 0) (pc' := 1) dX14_outputs_0 rfl rfl rfl ?_
  refine go_getfF (pc' := 4) dX14_outputs_1 rfl gf_LandBaseModel_362 hM (by decide) hw ?_
  exact Go.ret (v := some (.int _)) dX14_outputs_4 ⟨_, rfl⟩ ⟨rfl,rfl,rfl⟩
theorem r_out {G : xG} {h : xH} {F : Nat → Value} {n : Nat} {i : Int32} {f : Nat → Int32} (hn : n ≤ 30000) (hM : h.2 233 = some (.inr (13, mkF F 58))) (ho : F 44 = .int (nI n)) (hi : F 43 = .ref 1864) (hf : h.2 1864 = some (.inl (0, 30000, .inl f))) : Ca G mX14_out [.ref 233, .int i] h (fun v h' => v = some (.int (outV f n i)) ∧ h' = h) := by
  refine Ca.of rfl (Nat.le_of_ble_eq_true rfl) ?_
  refine go_iload_n (i := 1) (pc' := 1) dX14_out_0 rfl rfl rfl ?_
  refine go_if_lt (pc' := 4) (tgt := 21) dX14_out_1 (by decide) rfl (fun c1 => ?_) (fun c1 => ?_)
  · refine go_iconst (v := 0) (pc' := 22) dX14_out_21 rfl (by decide) ?_
    rw [outV, if_pos (Or.inl c1)]
    exact Go.ret (v := some (.int _)) dX14_out_22 ⟨_, rfl⟩ ⟨rfl,rfl,rfl⟩
  · refine go_iload_n (i := 1) (pc' := 5) dX14_out_4 rfl rfl rfl ?_
    first | refine go_aload_n (i := 0) (pc' := 6) dX14_out_5 rfl rfl rfl ?_ | refine go_aloadX_n (i := 0) (pc' := 6) dX14_out_5 rfl rfl rfl ?_ | refine go_aload_nN (i := 0) (pc' := 6) dX14_out_5 rfl rfl rfl ?_
    refine go_getfF (pc' := 9) dX14_out_6 rfl gf_LandBaseModel_362 hM (by decide) ho ?_
    refine go_icmp_ge (pc' := 12) (tgt := 21) dX14_out_9 (by decide) rfl (fun c2 => ?_) (fun c2 => ?_)
    · refine go_iconst (v := 0) (pc' := 22) dX14_out_21 rfl (by decide) ?_
      rw [outV, if_pos (Or.inr c2)]
      exact Go.ret (v := some (.int _)) dX14_out_22 ⟨_, rfl⟩ ⟨rfl,rfl,rfl⟩
    · obtain ⟨j, hj, e1⟩ : ∃ j, j < n ∧ i = nI j := by
        rcases pk_ix i (n := n) (by omega) with q | q | q
        · exact absurd q c1
        · exact absurd q c2
        · exact q
      subst e1
      have hin : vp_in (nI j) 30000 := vp_in_nI (by omega) (by omega)
      first | refine go_aload_n (i := 0) (pc' := 13) dX14_out_12 rfl rfl rfl ?_ | refine go_aloadX_n (i := 0) (pc' := 13) dX14_out_12 rfl rfl rfl ?_ | refine go_aload_nN (i := 0) (pc' := 13) dX14_out_12 rfl rfl rfl ?_
      refine go_getfF (pc' := 16) dX14_out_13 rfl gf_LandBaseModel_359 hM (by decide) hi ?_
      refine go_iload_n (i := 1) (pc' := 17) dX14_out_16 rfl rfl rfl ?_
      refine go_iaload (pc' := 18) dX14_out_17 rfl hf hin ?_
      refine go_goto (pc' := 0) (tgt := 22) dX14_out_18 (by decide) ?_
      rw [outV, if_neg (fun q => q.elim c1 c2)]
      exact Go.ret (v := some (.int _)) dX14_out_22 ⟨_, rfl⟩ ⟨rfl,rfl,rfl⟩
theorem r_isDown {G : xG} {h : xH} {F : Nat → Value} {dn : Int32} (hb : dn = 0 ∨ dn = 1) (hM : h.2 233 = some (.inr (13, mkF F 58))) (hd : F 33 = .int dn) : Ca G mX14_isDown [.ref 233] h (fun v h' => v = some (.int dn) ∧ h' = h) := by
  refine Ca.of rfl (Nat.le_of_ble_eq_true rfl) ?_
  first | refine go_aload_n (i := 0) (pc' := 1) dX14_isDown_0 rfl rfl rfl ?_ | refine go_aloadX_n (i := 0) (pc' := 1) dX14_isDown_0 rfl rfl rfl ?_ | refine go_aload_nN (i := 0) (pc' := 1) dX14_isDown_0 rfl rfl rfl ?_
  refine go_getfF (pc' := 4) dX14_isDown_1 rfl gf_LandBaseModel_318 hM (by decide) hd ?_
  exact Go.ret (v := some (.int _)) dX14_isDown_4 ⟨_, rfl⟩ ⟨(bool_ok hb),rfl,rfl⟩
theorem r_isOpen {G : xG} {h : xH} {F : Nat → Value} {op : Int32} (hb : op = 0 ∨ op = 1) (hM : h.2 233 = some (.inr (13, mkF F 58))) (hd : F 32 = .int op) : Ca G mX14_isOpen [.ref 233] h (fun v h' => v = some (.int op) ∧ h' = h) := by
  refine Ca.of rfl (Nat.le_of_ble_eq_true rfl) ?_
  first | refine go_aload_n (i := 0) (pc' := 1) dX14_isOpen_0 rfl rfl rfl ?_ | refine go_aloadX_n (i := 0) (pc' := 1) dX14_isOpen_0 rfl rfl rfl ?_ | refine go_aload_nN (i := 0) (pc' := 1) dX14_isOpen_0 rfl rfl rfl ?_
  refine go_getfF (pc' := 4) dX14_isOpen_1 rfl gf_LandBaseModel_321 hM (by decide) hd ?_
  exact Go.ret (v := some (.int _)) dX14_isOpen_4 ⟨_, rfl⟩ ⟨(bool_ok hb),rfl,rfl⟩
theorem r_live {G : xG} {h : xH} {F : Nat → Value} {dn n : Int32} {a : Value} (hM : h.2 233 = some (.inr (13, mkF F 58))) (hd : F 33 = .int dn) (hl : F 30 = .ref 259) (hs : h.2 259 = some (.inr (12, [a, .int n]))) : Ca G mX14_live [.ref 233] h (fun v h' => v = some (.int (if dn = 0 then n else -1)) ∧ h' = h) := by
  refine Ca.of rfl (Nat.le_of_ble_eq_true rfl) ?_
  first | refine go_aload_n (i := 0) (pc' := 1) dX14_live_0 rfl rfl rfl ?_ | refine go_aloadX_n (i := 0) (pc' := 1) dX14_live_0 rfl rfl rfl ?_ | refine go_aload_nN (i := 0) (pc' := 1) dX14_live_0 rfl rfl rfl ?_
  refine go_getfF (pc' := 4) dX14_live_1 rfl gf_LandBaseModel_318 hM (by decide) hd ?_
  refine go_if_eq (pc' := 7) (tgt := 11) dX14_live_4 (by decide) rfl (fun c1 => ?_) (fun c1 => ?_)
  · first | refine go_aload_n (i := 0) (pc' := 12) dX14_live_11 rfl rfl rfl ?_ | refine go_aloadX_n (i := 0) (pc' := 12) dX14_live_11 rfl rfl rfl ?_ | refine go_aload_nN (i := 0) (pc' := 12) dX14_live_11 rfl rfl rfl ?_
    refine go_getfF (pc' := 15) dX14_live_12 rfl gf_LandBaseModel_351 hM (by decide) hl ?_
    refine go_getf (pc' := 18) dX14_live_15 rfl gf_LandBaseModel_581 hs rfl ?_
    rw [if_pos c1]
    exact Go.ret (v := some (.int _)) dX14_live_18 ⟨_, rfl⟩ ⟨rfl,rfl,rfl⟩
  · refine go_iconst (v := (-1)) (pc' := 8) dX14_live_7 rfl (by decide) ?_
    refine go_goto (pc' := 0) (tgt := 18) dX14_live_8 (by decide) ?_
    rw [if_neg c1]
    exact Go.ret (v := some (.int _)) dX14_live_18 ⟨_, rfl⟩ ⟨rfl,rfl,rfl⟩
theorem r_used {G : xG} {h : xH} {F : Nat → Value} {dn bl : Int32} (hM : h.2 233 = some (.inr (13, mkF F 58))) (hd : F 33 = .int dn) (hu : F 35 = .int bl) : Ca G mX14_used [.ref 233] h (fun v h' => v = some (.int (if dn = 0 then bl else -1)) ∧ h' = h) := by
  refine Ca.of rfl (Nat.le_of_ble_eq_true rfl) ?_
  first | refine go_aload_n (i := 0) (pc' := 1) dX14_used_0 rfl rfl rfl ?_ | refine go_aloadX_n (i := 0) (pc' := 1) dX14_used_0 rfl rfl rfl ?_ | refine go_aload_nN (i := 0) (pc' := 1) dX14_used_0 rfl rfl rfl ?_
  refine go_getfF (pc' := 4) dX14_used_1 rfl gf_LandBaseModel_318 hM (by decide) hd ?_
  refine go_if_eq (pc' := 7) (tgt := 11) dX14_used_4 (by decide) rfl (fun c1 => ?_) (fun c1 => ?_)
  · first | refine go_aload_n (i := 0) (pc' := 12) dX14_used_11 rfl rfl rfl ?_ | refine go_aloadX_n (i := 0) (pc' := 12) dX14_used_11 rfl rfl rfl ?_ | refine go_aload_nN (i := 0) (pc' := 12) dX14_used_11 rfl rfl rfl ?_
    refine go_getfF (pc' := 15) dX14_used_12 rfl gf_LandBaseModel_332 hM (by decide) hu ?_
    rw [if_pos c1]
    exact Go.ret (v := some (.int _)) dX14_used_15 ⟨_, rfl⟩ ⟨rfl,rfl,rfl⟩
  · refine go_iconst (v := (-1)) (pc' := 8) dX14_used_7 rfl (by decide) ?_
    refine go_goto (pc' := 0) (tgt := 15) dX14_used_8 (by decide) ?_
    rw [if_neg c1]
    exact Go.ret (v := some (.int _)) dX14_used_15 ⟨_, rfl⟩ ⟨rfl,rfl,rfl⟩
theorem r_saves {G : xG} {h : xH} {F : Nat → Value} {sv : Int32} (hM : h.2 233 = some (.inr (13, mkF F 58))) (hd : F 36 = .int sv) : Ca G mX14_saves [.ref 233] h (fun v h' => v = some (.int sv) ∧ h' = h) := by
  refine Ca.of rfl (Nat.le_of_ble_eq_true rfl) ?_
  first | refine go_aload_n (i := 0) (pc' := 1) dX14_saves_0 rfl rfl rfl ?_ | refine go_aloadX_n (i := 0) (pc' := 1) dX14_saves_0 rfl rfl rfl ?_ | refine go_aload_nN (i := 0) (pc' := 1) dX14_saves_0 rfl rfl rfl ?_
  refine go_getfF (pc' := 4) dX14_saves_1 rfl gf_LandBaseModel_335 hM (by decide) hd ?_
  exact Go.ret (v := some (.int _)) dX14_saves_4 ⟨_, rfl⟩ ⟨rfl,rfl,rfl⟩
theorem r_flaws {G : xG} {h : xH} : Ca G mX14_flaws [.ref 233] h (fun v h' => v = some (.int 0) ∧ h' = h) := by
  refine Ca.of rfl (Nat.le_of_ble_eq_true rfl) ?_
  refine go_iconst (v := 0) (pc' := 1) dX14_flaws_0 rfl (by decide) ?_
  exact Go.ret (v := some (.int _)) dX14_flaws_1 ⟨_, rfl⟩ ⟨rfl,rfl,rfl⟩
theorem r_crash {G : xG} {h : xH} {F : Nat → Value} {dn k n t : Int32} (hM : h.2 233 = some (.inr (13, mkF F 58))) (hd : F 33 = .int dn) : Ca G mX14_crash [.ref 233, .int k, .int n, .int t] h (fun v h' => (¬ crOk dn k n t ∧ v = some (.int 0) ∧ h' = h) ∨ (crOk dn k n t ∧ v = some (.int 1) ∧ h'.1 = h.1 ∧ h'.2 233 = some (.inr (13, mkF (updV (updV F 37 (.int k)) 38 (.int n)) 58)) ∧ ∀ b, b ≠ 233 → h'.2 b = h.2 b)) := by
  refine Ca.of rfl (Nat.le_of_ble_eq_true rfl) ?_
  have hz : h.1 = h.1 := rfl
  refine go_iload_n (i := 1) (pc' := 1) dX14_crash_0 rfl rfl rfl ?_
  refine go_if_lt (pc' := 4) (tgt := 39) dX14_crash_1 (by decide) rfl (fun c2 => ?_) (fun c2 => ?_)
  · refine go_iconst (v := 0) (pc' := 40) dX14_crash_39 rfl (by decide) ?_
    exact Go.ret (v := some (.int _)) dX14_crash_40 ⟨_, rfl⟩ ⟨(bool_ok (by decide)),(Or.inl ⟨fun q => q (Or.inr (Or.inl c2)), rfl, rfl⟩)⟩
  · refine go_iload_n (i := 1) (pc' := 5) dX14_crash_4 rfl rfl rfl ?_
    refine go_iconst (v := 1) (pc' := 6) dX14_crash_5 rfl (by decide) ?_
    refine go_icmp_gt (pc' := 9) (tgt := 39) dX14_crash_6 (by decide) rfl (fun c3 => ?_) (fun c3 => ?_)
    · refine go_iconst (v := 0) (pc' := 40) dX14_crash_39 rfl (by decide) ?_
      exact Go.ret (v := some (.int _)) dX14_crash_40 ⟨_, rfl⟩ ⟨(bool_ok (by decide)),(Or.inl ⟨fun q => q (Or.inr (Or.inr (Or.inl c3))), rfl, rfl⟩)⟩
    · refine go_iload_n (i := 2) (pc' := 10) dX14_crash_9 rfl rfl rfl ?_
      refine go_iconst (v := 1) (pc' := 11) dX14_crash_10 rfl (by decide) ?_
      refine go_icmp_lt (pc' := 14) (tgt := 39) dX14_crash_11 (by decide) rfl (fun c4 => ?_) (fun c4 => ?_)
      · refine go_iconst (v := 0) (pc' := 40) dX14_crash_39 rfl (by decide) ?_
        exact Go.ret (v := some (.int _)) dX14_crash_40 ⟨_, rfl⟩ ⟨(bool_ok (by decide)),(Or.inl ⟨fun q => q (Or.inr (Or.inr (Or.inr (Or.inl c4)))), rfl, rfl⟩)⟩
      · refine go_iload_n (i := 2) (pc' := 15) dX14_crash_14 rfl rfl rfl ?_
        refine go_sipush (v := 1000) (pc' := 18) dX14_crash_15 rfl (by decide) ?_
        refine go_icmp_gt (pc' := 21) (tgt := 39) dX14_crash_18 (by decide) rfl (fun c5 => ?_) (fun c5 => ?_)
        · refine go_iconst (v := 0) (pc' := 40) dX14_crash_39 rfl (by decide) ?_
          exact Go.ret (v := some (.int _)) dX14_crash_40 ⟨_, rfl⟩ ⟨(bool_ok (by decide)),(Or.inl ⟨fun q => q (Or.inr (Or.inr (Or.inr (Or.inr (Or.inl c5))))), rfl, rfl⟩)⟩
        · refine go_iload_n (i := 3) (pc' := 22) dX14_crash_21 rfl rfl rfl ?_
          refine go_if_lt (pc' := 25) (tgt := 39) dX14_crash_22 (by decide) rfl (fun c6 => ?_) (fun c6 => ?_)
          · refine go_iconst (v := 0) (pc' := 40) dX14_crash_39 rfl (by decide) ?_
            exact Go.ret (v := some (.int _)) dX14_crash_40 ⟨_, rfl⟩ ⟨(bool_ok (by decide)),(Or.inl ⟨fun q => q (Or.inr (Or.inr (Or.inr (Or.inr (Or.inr (Or.inl c6)))))), rfl, rfl⟩)⟩
          · refine go_iload_n (i := 3) (pc' := 26) dX14_crash_25 rfl rfl rfl ?_
            refine go_sipush (v := 200) (pc' := 29) dX14_crash_26 rfl (by decide) ?_
            refine go_icmp_gt (pc' := 32) (tgt := 39) dX14_crash_29 (by decide) rfl (fun c7 => ?_) (fun c7 => ?_)
            · refine go_iconst (v := 0) (pc' := 40) dX14_crash_39 rfl (by decide) ?_
              exact Go.ret (v := some (.int _)) dX14_crash_40 ⟨_, rfl⟩ ⟨(bool_ok (by decide)),(Or.inl ⟨fun q => q (Or.inr (Or.inr (Or.inr (Or.inr (Or.inr (Or.inr c7)))))), rfl, rfl⟩)⟩
            · first | refine go_aload_n (i := 0) (pc' := 33) dX14_crash_32 rfl rfl rfl ?_ | refine go_aloadX_n (i := 0) (pc' := 33) dX14_crash_32 rfl rfl rfl ?_ | refine go_aload_nN (i := 0) (pc' := 33) dX14_crash_32 rfl rfl rfl ?_
              refine go_getfF (pc' := 36) dX14_crash_33 rfl gf_LandBaseModel_318 hM (by decide) hd ?_
              refine go_if_eq (pc' := 39) (tgt := 41) dX14_crash_36 (by decide) rfl (fun c1 => ?_) (fun c1 => ?_)
              · have hfr : ∀ b, (b ≠ 233) → h.2 b = h.2 b := fun _ _ => rfl
                first | refine go_aload_n (i := 0) (pc' := 42) dX14_crash_41 rfl rfl rfl ?_ | refine go_aloadX_n (i := 0) (pc' := 42) dX14_crash_41 rfl rfl rfl ?_ | refine go_aload_nN (i := 0) (pc' := 42) dX14_crash_41 rfl rfl rfl ?_
                refine go_iload_n (i := 1) (pc' := 43) dX14_crash_42 rfl rfl rfl ?_
                refine go_putfF (pc' := 46) dX14_crash_43 rfl pf_LandBaseModel_323 (fun h => by cases h) hM (by decide) rfl rfl (fun hp1 zp1 cp1 fp1 => ?_)
                have hz := zp1.trans hz
                have hfr : ∀ b, (b ≠ 233) → hp1.2 b = h.2 b := fun b hb => (fp1 b (by omega)).trans (hfr b hb)
                have hM := cp1
                first | refine go_aload_n (i := 0) (pc' := 47) dX14_crash_46 rfl rfl rfl ?_ | refine go_aloadX_n (i := 0) (pc' := 47) dX14_crash_46 rfl rfl rfl ?_ | refine go_aload_nN (i := 0) (pc' := 47) dX14_crash_46 rfl rfl rfl ?_
                refine go_iload_n (i := 2) (pc' := 48) dX14_crash_47 rfl rfl rfl ?_
                refine go_putfF (pc' := 51) dX14_crash_48 rfl pf_LandBaseModel_326 (fun h => by cases h) hM (by decide) rfl rfl (fun hp2 zp2 cp2 fp2 => ?_)
                have hz := zp2.trans hz
                have hfr : ∀ b, (b ≠ 233) → hp2.2 b = h.2 b := fun b hb => (fp2 b (by omega)).trans (hfr b hb)
                have hM := cp2
                refine go_iconst (v := 1) (pc' := 52) dX14_crash_51 rfl (by decide) ?_
                exact Go.ret (v := some (.int _)) dX14_crash_52 ⟨_, rfl⟩ ⟨(bool_ok (by decide)),(Or.inr ⟨fun q => by rcases q with q | q | q | q | q | q | q; exact q c1; exact c2 q; exact c3 q; exact c4 q; exact c5 q; exact c6 q; exact c7 q, rfl, hz, hM, hfr⟩)⟩
              · refine go_iconst (v := 0) (pc' := 40) dX14_crash_39 rfl (by decide) ?_
                exact Go.ret (v := some (.int _)) dX14_crash_40 ⟨_, rfl⟩ ⟨(bool_ok (by decide)),(Or.inl ⟨fun q => q (Or.inl c1), rfl, rfl⟩)⟩
theorem r_end {G : xG} {h : xH} {F : Nat → Value} {n : Int32} {ts : Nat} (hM : h.2 233 = some (.inr (13, mkF F 58))) (ht : F 40 = .int (nI ts)) : Ca G mX14_end [.ref 233, .int n] h (fun v h' => (¬ enOk ts n ∧ v = some (.int (-1)) ∧ h' = h) ∨ (enOk ts n ∧ v = some (.int (nI ts - (40 - n))) ∧ h'.1 = h.1 ∧ h'.2 233 = some (.inr (13, mkF (updV F 40 (.int (nI ts - (40 - n)))) 58)) ∧ ∀ b, b ≠ 233 → h'.2 b = h.2 b)) := by
  refine Ca.of rfl (Nat.le_of_ble_eq_true rfl) ?_
  have hz : h.1 = h.1 := rfl
  refine go_iload_n (i := 1) (pc' := 1) dX14_end_0 rfl rfl rfl ?_
  refine go_if_lt (pc' := 4) (tgt := 21) dX14_end_1 (by decide) rfl (fun c1 => ?_) (fun c1 => ?_)
  · refine go_iconst (v := (-1)) (pc' := 22) dX14_end_21 rfl (by decide) ?_
    exact Go.ret (v := some (.int _)) dX14_end_22 ⟨_, rfl⟩ ⟨rfl,(Or.inl ⟨fun q => q (Or.inl c1), rfl, rfl⟩)⟩
  · refine go_iload_n (i := 1) (pc' := 5) dX14_end_4 rfl rfl rfl ?_
    refine go_bipush (v := 40) (pc' := 7) dX14_end_5 rfl (by decide) ?_
    refine go_icmp_gt (pc' := 10) (tgt := 21) dX14_end_7 (by decide) rfl (fun c2 => ?_) (fun c2 => ?_)
    · refine go_iconst (v := (-1)) (pc' := 22) dX14_end_21 rfl (by decide) ?_
      exact Go.ret (v := some (.int _)) dX14_end_22 ⟨_, rfl⟩ ⟨rfl,(Or.inl ⟨fun q => q (Or.inr (Or.inl c2)), rfl, rfl⟩)⟩
    · first | refine go_aload_n (i := 0) (pc' := 11) dX14_end_10 rfl rfl rfl ?_ | refine go_aloadX_n (i := 0) (pc' := 11) dX14_end_10 rfl rfl rfl ?_ | refine go_aload_nN (i := 0) (pc' := 11) dX14_end_10 rfl rfl rfl ?_
      refine go_getfF (pc' := 14) dX14_end_11 rfl gf_LandBaseModel_373 hM (by decide) ht ?_
      refine go_bipush (v := 40) (pc' := 16) dX14_end_14 rfl (by decide) ?_
      refine go_iload_n (i := 1) (pc' := 17) dX14_end_16 rfl rfl rfl ?_
      refine go_isub (pc' := 18) dX14_end_17 rfl ?_
      refine go_icmp_ge (pc' := 21) (tgt := 23) dX14_end_18 (by decide) rfl (fun c3 => ?_) (fun c3 => ?_)
      · have hfr : ∀ b, (b ≠ 233) → h.2 b = h.2 b := fun _ _ => rfl
        first | refine go_aload_n (i := 0) (pc' := 24) dX14_end_23 rfl rfl rfl ?_ | refine go_aloadX_n (i := 0) (pc' := 24) dX14_end_23 rfl rfl rfl ?_ | refine go_aload_nN (i := 0) (pc' := 24) dX14_end_23 rfl rfl rfl ?_
        refine go_dup (pc' := 25) dX14_end_24 rfl rfl ?_
        refine go_getfF (pc' := 28) dX14_end_25 rfl gf_LandBaseModel_373 hM (by decide) ht ?_
        refine go_bipush (v := 40) (pc' := 30) dX14_end_28 rfl (by decide) ?_
        refine go_iload_n (i := 1) (pc' := 31) dX14_end_30 rfl rfl rfl ?_
        refine go_isub (pc' := 32) dX14_end_31 rfl ?_
        refine go_isub (pc' := 33) dX14_end_32 rfl ?_
        refine go_putfF (pc' := 36) dX14_end_33 rfl pf_LandBaseModel_373 (fun h => by cases h) hM (by decide) rfl rfl (fun hp1 zp1 cp1 fp1 => ?_)
        have hz := zp1.trans hz
        have hfr : ∀ b, (b ≠ 233) → hp1.2 b = h.2 b := fun b hb => (fp1 b (by omega)).trans (hfr b hb)
        have hM := cp1
        first | refine go_aload_n (i := 0) (pc' := 37) dX14_end_36 rfl rfl rfl ?_ | refine go_aloadX_n (i := 0) (pc' := 37) dX14_end_36 rfl rfl rfl ?_ | refine go_aload_nN (i := 0) (pc' := 37) dX14_end_36 rfl rfl rfl ?_
        refine go_getfF (pc' := 40) dX14_end_37 rfl gf_LandBaseModel_373 hM (by decide) rfl ?_
        exact Go.ret (v := some (.int _)) dX14_end_40 ⟨_, rfl⟩ ⟨rfl,(Or.inr ⟨fun q => q.elim c1 (fun z => z.elim c2 (Int32.not_lt.mpr c3)), rfl, hz, hM, hfr⟩)⟩
      · refine go_iconst (v := (-1)) (pc' := 22) dX14_end_21 rfl (by decide) ?_
        exact Go.ret (v := some (.int _)) dX14_end_22 ⟨_, rfl⟩ ⟨rfl,(Or.inl ⟨fun q => q (Or.inr (Or.inr (Int32.not_le.mp c3))), rfl, rfl⟩)⟩
end
section
/-! feed: the bytes come behind the tape -/
def shf (j : Nat) : Int32 := 56 - nI (8 * j)
theorem shf_next : ∀ j, j < 8 → shf j + (-8) = shf (j + 1) := by decide
theorem shf_pos : ∀ j, j < 8 → ¬ shf j < 0 := by decide
/-- the j-th byte of a long as the system keeps it -/
def cB (x : Int64) (j : Nat) : Int32 := vp_nar .byte ((x.toUInt64 >>> ((shf j).toInt64.toUInt64 &&& Int64.toUInt64 63)).toInt64.toInt32.toInt8.toInt32)
/-- and as the reference keeps it -/
def rB (x : Int64) (j : Nat) : Int32 := ((x >>> ((shf j).toInt64 &&& 63)) &&& 255).toInt32
/-- a row with k new ones behind its first n -/
def ext (f : Nat → Int32) (n k : Nat) (g : Nat → Int32) (f' : Nat → Int32) : Prop := (∀ i, i < n → f' i = f i) ∧ ∀ j, j < k → f' (n + j) = g j
theorem ext_0 (f : Nat → Int32) (n : Nat) (g : Nat → Int32) : ext f n 0 g f := ⟨fun _ _ => rfl, fun _ h => absurd h (by omega)⟩
theorem ext_upd {f f' g : Nat → Int32} {n k : Nat} (h : ext f n k g f') : ext f n (k + 1) g (upd f' (n + k) (g k)) := by
  refine ⟨fun i hi => ?_, fun j hj => ?_⟩
  · have : i ≠ n + k := by omega
    simp [upd, this, h.1 i hi]
  · by_cases e : j = k
    · subst e; simp [upd]
    · have : n + j ≠ n + k := by omega
      simp [upd, e, h.2 j (by omega)]
set_option maxRecDepth 100000 in
theorem c_append {G : xG} {h : xH} {a b c d : Int32} {x : Int64} {ts : Nat} {tb : Nat → Int32} (hts : ts + 8 ≤ 4000) (k1 : h.2 1 = some (.inr (8, cTp (nI ts) a b c d))) (k2 : h.2 2 = some (.inl (1, 4000, .inl tb))) : Ca G mX9_append [.ref 1, .long x] h (fun v h' => v = none ∧ h'.1 = h.1 ∧ h'.2 1 = some (.inr (8, cTp (nI (ts + 8)) a b c d)) ∧ (∃ tb', h'.2 2 = some (.inl (1, 4000, .inl tb')) ∧ ext tb ts 8 (cB x) tb') ∧ ∀ b, (b ≠ 1 ∧ b ≠ 2) → h'.2 b = h.2 b) := by
  refine Ca.of rfl (Nat.le_of_ble_eq_true rfl) ?_
  have loop : ∀ (m j : Nat) (hc : xH) (tc : Nat → Int32), j + m = 8 → hc.1 = h.1 → hc.2 1 = some (.inr (8, cTp (nI (ts + j)) a b c d)) → hc.2 2 = some (.inl (1, 4000, .inl tc)) → ext tb ts j (cB x) tc → (∀ b, (b ≠ 1 ∧ b ≠ 2) → hc.2 b = h.2 b) → Go G mX9_append 3 [some (.ref 1), some (.long x), none, some (.int (shf j))] [] hc (fun v h' => xRok (xRt mX9_append) v ∧ v = none ∧ h'.1 = h.1 ∧ h'.2 1 = some (.inr (8, cTp (nI (ts + 8)) a b c d)) ∧ (∃ tb', h'.2 2 = some (.inl (1, 4000, .inl tb')) ∧ ext tb ts 8 (cB x) tb') ∧ ∀ b, (b ≠ 1 ∧ b ≠ 2) → h'.2 b = h.2 b) := by
    intro m
    induction m with
    | zero =>
      intro j hc tc hj hz k1 k2 hx hf
      have e : j = 8 := by omega
      subst e
      refine go_iload_n (i := 3) (pc' := 4) dX9_append_3 rfl rfl rfl ?_
      refine go_if_lt (pc' := 7) (tgt := 47) dX9_append_4 (by decide) rfl (fun c1 => ?_) (fun c1 => ?_)
      · exact Go.ret (v := none) dX9_append_47 rfl ⟨trivial,rfl,hz,k1,⟨tc,k2,hx⟩,hf⟩
      · exact absurd (by decide) c1
    | succ m ih =>
      intro j hc tc hj hz k1 k2 hx hf
      have hin : vp_in (nI (ts + j)) 4000 := vp_in_nI (by omega) (by omega)
      have hcl : (nI (ts + j)).toNatClampNeg = ts + j := nI_clamp (by omega)
      refine go_iload_n (i := 3) (pc' := 4) dX9_append_3 rfl rfl rfl ?_
      refine go_if_lt (pc' := 7) (tgt := 47) dX9_append_4 (by decide) rfl (fun c1 => ?_) (fun c1 => ?_)
      · exact absurd c1 (shf_pos j (by omega))
      · first | refine go_aload_n (i := 0) (pc' := 8) dX9_append_7 rfl rfl rfl ?_ | refine go_aloadX_n (i := 0) (pc' := 8) dX9_append_7 rfl rfl rfl ?_ | refine go_aload_nN (i := 0) (pc' := 8) dX9_append_7 rfl rfl rfl ?_
        refine go_getf (pc' := 11) dX9_append_8 rfl gf_LandBase_Tape_15 k1 rfl ?_
        refine go_sipush (v := 4000) (pc' := 14) dX9_append_11 rfl (by decide) ?_
        refine go_icmp_ge (pc' := 17) (tgt := 47) dX9_append_14 (by decide) rfl (fun c2 => ?_) (fun c2 => ?_)
        · exact absurd c2 (nI_ge (a := ts + j) (b := 4000) (by omega) (by omega))
        · have hfr : ∀ b, (b ≠ 1 ∧ b ≠ 2) → hc.2 b = hc.2 b := fun _ _ => rfl
          first | refine go_aload_n (i := 0) (pc' := 18) dX9_append_17 rfl rfl rfl ?_ | refine go_aloadX_n (i := 0) (pc' := 18) dX9_append_17 rfl rfl rfl ?_ | refine go_aload_nN (i := 0) (pc' := 18) dX9_append_17 rfl rfl rfl ?_
          refine go_getf (pc' := 21) dX9_append_18 rfl gf_LandBase_Tape_9 k1 rfl ?_
          first | refine go_aload_n (i := 0) (pc' := 22) dX9_append_21 rfl rfl rfl ?_ | refine go_aloadX_n (i := 0) (pc' := 22) dX9_append_21 rfl rfl rfl ?_ | refine go_aload_nN (i := 0) (pc' := 22) dX9_append_21 rfl rfl rfl ?_
          refine go_getf (pc' := 25) dX9_append_22 rfl gf_LandBase_Tape_15 k1 rfl ?_
          refine go_lload_n (i := 1) (pc' := 26) dX9_append_25 rfl rfl rfl ?_
          refine go_iload_n (i := 3) (pc' := 27) dX9_append_26 rfl rfl rfl ?_
          refine go_lushr (pc' := 28) dX9_append_27 rfl rfl ?_
          refine go_l2i (pc' := 29) dX9_append_28 rfl rfl ?_
          refine go_i2b (pc' := 30) dX9_append_29 rfl rfl ?_
          refine go_bastoreK (pc' := 31) dX9_append_30 rfl k2 hin (fun hp1 zp1 cp1 fp1 => ?_)
          have hz := zp1.trans hz
          have k1 := (fp1 _ (by omega)).trans k1
          have hfr : ∀ b, (b ≠ 1 ∧ b ≠ 2) → hp1.2 b = hc.2 b := fun b hb => (fp1 b (by omega)).trans (hfr b hb)
          have k2 := cp1
          rw [hcl] at k2
          first | refine go_aload_n (i := 0) (pc' := 32) dX9_append_31 rfl rfl rfl ?_ | refine go_aloadX_n (i := 0) (pc' := 32) dX9_append_31 rfl rfl rfl ?_ | refine go_aload_nN (i := 0) (pc' := 32) dX9_append_31 rfl rfl rfl ?_
          refine go_dup (pc' := 33) dX9_append_32 rfl rfl ?_
          refine go_getf (pc' := 36) dX9_append_33 rfl gf_LandBase_Tape_15 k1 rfl ?_
          refine go_iconst (v := 1) (pc' := 37) dX9_append_36 rfl (by decide) ?_
          refine go_iadd (pc' := 38) dX9_append_37 rfl ?_
          refine go_putfK (pc' := 41) dX9_append_38 rfl pf_LandBase_Tape_15 (fun h => by cases h) k1 (Nat.le_of_ble_eq_true rfl) rfl rfl (fun hp2 zp2 cp2 fp2 => ?_)
          dsimp only [List.set] at cp2
          have hz := zp2.trans hz
          have k2 := (fp2 _ (by omega)).trans k2
          have hfr : ∀ b, (b ≠ 1 ∧ b ≠ 2) → hp2.2 b = hc.2 b := fun b hb => (fp2 b (by omega)).trans (hfr b hb)
          have k1 := cp2
          refine go_iincC (kk := (-8)) (pc' := 44) dX9_append_41 rfl rfl (by decide) (by decide) rfl ?_
          refine go_goto (pc' := 0) (tgt := 3) dX9_append_44 (by decide) ?_
          rw [nI_1] at k1
          rw [shf_next j (by omega)]
          exact ih (j + 1) _ _ (by omega) hz k1 k2 (ext_upd hx) (fun b hb => (hfr b hb).trans (hf b hb))
  refine go_bipush (v := 56) (pc' := 2) dX9_append_0 rfl (by decide) ?_
  refine go_istore_n (i := 3) (pc' := 3) dX9_append_2 rfl rfl (by decide) rfl ?_
  exact loop 8 0 h tb rfl rfl k1 k2 (ext_0 _ _ _) (fun _ _ => rfl)
/-- five longs, one behind the other -/
def byF (B : Int64 → Nat → Int32) (xa xb xc xd xe : Int64) (j : Nat) : Int32 := if j < 8 then B xa j else if j < 16 then B xb (j - 8) else if j < 24 then B xc (j - 16) else if j < 32 then B xd (j - 24) else B xe (j - 32)
theorem ext_5 {B : Int64 → Nat → Int32} {xa xb xc xd xe : Int64} {f f1 f2 f3 f4 f5 : Nat → Int32} {n : Nat} (h1 : ext f n 8 (B xa) f1) (h2 : ext f1 (n + 8) 8 (B xb) f2) (h3 : ext f2 (n + 16) 8 (B xc) f3) (h4 : ext f3 (n + 24) 8 (B xd) f4) (h5 : ext f4 (n + 32) 8 (B xe) f5) : ext f n 40 (byF B xa xb xc xd xe) f5 := by
  refine ⟨fun i hi => ?_, fun j hj => ?_⟩
  · rw [h5.1 i (by omega), h4.1 i (by omega), h3.1 i (by omega), h2.1 i (by omega), h1.1 i hi]
  · unfold byF
    by_cases a1 : j < 8
    · rw [if_pos a1, h5.1 _ (by omega), h4.1 _ (by omega), h3.1 _ (by omega), h2.1 _ (by omega), h1.2 j a1]
    · by_cases a2 : j < 16
      · rw [if_neg a1, if_pos a2, h5.1 _ (by omega), h4.1 _ (by omega), h3.1 _ (by omega)]
        have := h2.2 (j - 8) (by omega)
        rwa [show n + 8 + (j - 8) = n + j by omega] at this
      · by_cases a3 : j < 24
        · rw [if_neg a1, if_neg a2, if_pos a3, h5.1 _ (by omega), h4.1 _ (by omega)]
          have := h3.2 (j - 16) (by omega)
          rwa [show n + 16 + (j - 16) = n + j by omega] at this
        · by_cases a4 : j < 32
          · rw [if_neg a1, if_neg a2, if_neg a3, if_pos a4, h5.1 _ (by omega)]
            have := h4.2 (j - 24) (by omega)
            rwa [show n + 24 + (j - 24) = n + j by omega] at this
          · rw [if_neg a1, if_neg a2, if_neg a3, if_neg a4]
            have := h5.2 (j - 32) (by omega)
            rwa [show n + 32 + (j - 32) = n + j by omega] at this
set_option maxRecDepth 100000 in
theorem c_feed {G : xG} {h : xH} {ic off wa a b c d : Int32} {xa xb xc xd xe : Int64} {ts : Nat} {tb : Nat → Int32} (hts : ts ≤ 4000) (k0 : h.2 0 = some (.inr (9, cO ic off wa))) (k1 : h.2 1 = some (.inr (8, cTp (nI ts) a b c d))) (k2 : h.2 2 = some (.inl (1, 4000, .inl tb))) : Ca G mX10_feed [.ref 0, .long xa, .long xb, .long xc, .long xd, .long xe] h (fun v h' => (4000 < ts + 40 ∧ v = some (.int (-1)) ∧ h' = h) ∨ (ts + 40 ≤ 4000 ∧ v = some (.int (nI (ts + 40))) ∧ h'.1 = h.1 ∧ h'.2 1 = some (.inr (8, cTp (nI (ts + 40)) a b c d)) ∧ (∃ tb', h'.2 2 = some (.inl (1, 4000, .inl tb')) ∧ ext tb ts 40 (byF cB xa xb xc xd xe) tb') ∧ ∀ b, (b ≠ 1 ∧ b ≠ 2) → h'.2 b = h.2 b)) := by
  refine Ca.of rfl (Nat.le_of_ble_eq_true rfl) ?_
  have e40 : nI ts + 40 = nI (ts + 40) := nI_add ts 40
  first | refine go_aload_n (i := 0) (pc' := 1) dX10_feed_0 rfl rfl rfl ?_ | refine go_aloadX_n (i := 0) (pc' := 1) dX10_feed_0 rfl rfl rfl ?_ | refine go_aload_nN (i := 0) (pc' := 1) dX10_feed_0 rfl rfl rfl ?_
  refine go_getf (pc' := 4) dX10_feed_1 rfl gf_LandBase_10 k0 rfl ?_
  refine go_getf (pc' := 7) dX10_feed_4 rfl gf_LandBase_73 k1 rfl ?_
  refine go_bipush (v := 40) (pc' := 9) dX10_feed_7 rfl (by decide) ?_
  refine go_iadd (pc' := 10) dX10_feed_9 rfl ?_
  refine go_sipush (v := 4000) (pc' := 13) dX10_feed_10 rfl (by decide) ?_
  refine go_icmp_le (pc' := 16) (tgt := 18) dX10_feed_13 (by decide) rfl (fun c1 => ?_) (fun c1 => ?_)
  · have hle : ts + 40 ≤ 4000 := by
      rw [e40] at c1
      exact (nI_leI (a := ts + 40) (b := 4000) (by omega) (by omega)).mp c1
    first | refine go_aload_n (i := 0) (pc' := 19) dX10_feed_18 rfl rfl rfl ?_ | refine go_aloadX_n (i := 0) (pc' := 19) dX10_feed_18 rfl rfl rfl ?_ | refine go_aload_nN (i := 0) (pc' := 19) dX10_feed_18 rfl rfl rfl ?_
    refine go_getf (pc' := 22) dX10_feed_19 rfl gf_LandBase_10 k0 rfl ?_
    refine go_lload_n (i := 1) (pc' := 23) dX10_feed_22 rfl rfl rfl ?_
    refine go_invV (As := [_]) (pc' := 26) dX10_feed_23 rfl cf_X10_feed_76 rfl k1 rfl rfl (Nat.le_of_ble_eq_true rfl) (c_append (by omega) k1 k2) (fun v1 h1 q1 => ?_)
    obtain ⟨rfl, z1, k1, ⟨t1, k2, x1⟩, f1⟩ := q1
    have k0 := (f1 _ (by omega)).trans k0
    first | refine go_aload_n (i := 0) (pc' := 27) dX10_feed_26 rfl rfl rfl ?_ | refine go_aloadX_n (i := 0) (pc' := 27) dX10_feed_26 rfl rfl rfl ?_ | refine go_aload_nN (i := 0) (pc' := 27) dX10_feed_26 rfl rfl rfl ?_
    refine go_getf (pc' := 30) dX10_feed_27 rfl gf_LandBase_10 k0 rfl ?_
    refine go_lload_n (i := 3) (pc' := 31) dX10_feed_30 rfl rfl rfl ?_
    refine go_invV (As := [_]) (pc' := 34) dX10_feed_31 rfl cf_X10_feed_76 rfl k1 rfl rfl (Nat.le_of_ble_eq_true rfl) (c_append (by omega) k1 k2) (fun v2 h2 q2 => ?_)
    obtain ⟨rfl, z2, k1, ⟨t2, k2, x2⟩, f2⟩ := q2
    have k0 := (f2 _ (by omega)).trans k0
    first | refine go_aload_n (i := 0) (pc' := 35) dX10_feed_34 rfl rfl rfl ?_ | refine go_aloadX_n (i := 0) (pc' := 35) dX10_feed_34 rfl rfl rfl ?_ | refine go_aload_nN (i := 0) (pc' := 35) dX10_feed_34 rfl rfl rfl ?_
    refine go_getf (pc' := 38) dX10_feed_35 rfl gf_LandBase_10 k0 rfl ?_
    refine go_lload (pc' := 40) dX10_feed_38 rfl rfl ?_
    refine go_invV (As := [_]) (pc' := 43) dX10_feed_40 rfl cf_X10_feed_76 rfl k1 rfl rfl (Nat.le_of_ble_eq_true rfl) (c_append (by omega) k1 k2) (fun v3 h3 q3 => ?_)
    obtain ⟨rfl, z3, k1, ⟨t3, k2, x3⟩, f3⟩ := q3
    have k0 := (f3 _ (by omega)).trans k0
    first | refine go_aload_n (i := 0) (pc' := 44) dX10_feed_43 rfl rfl rfl ?_ | refine go_aloadX_n (i := 0) (pc' := 44) dX10_feed_43 rfl rfl rfl ?_ | refine go_aload_nN (i := 0) (pc' := 44) dX10_feed_43 rfl rfl rfl ?_
    refine go_getf (pc' := 47) dX10_feed_44 rfl gf_LandBase_10 k0 rfl ?_
    refine go_lload (pc' := 49) dX10_feed_47 rfl rfl ?_
    refine go_invV (As := [_]) (pc' := 52) dX10_feed_49 rfl cf_X10_feed_76 rfl k1 rfl rfl (Nat.le_of_ble_eq_true rfl) (c_append (by omega) k1 k2) (fun v4 h4 q4 => ?_)
    obtain ⟨rfl, z4, k1, ⟨t4, k2, x4⟩, f4⟩ := q4
    have k0 := (f4 _ (by omega)).trans k0
    first | refine go_aload_n (i := 0) (pc' := 53) dX10_feed_52 rfl rfl rfl ?_ | refine go_aloadX_n (i := 0) (pc' := 53) dX10_feed_52 rfl rfl rfl ?_ | refine go_aload_nN (i := 0) (pc' := 53) dX10_feed_52 rfl rfl rfl ?_
    refine go_getf (pc' := 56) dX10_feed_53 rfl gf_LandBase_10 k0 rfl ?_
    refine go_lload (pc' := 58) dX10_feed_56 rfl rfl ?_
    refine go_invV (As := [_]) (pc' := 61) dX10_feed_58 rfl cf_X10_feed_76 rfl k1 rfl rfl (Nat.le_of_ble_eq_true rfl) (c_append (by omega) k1 k2) (fun v5 h5 q5 => ?_)
    obtain ⟨rfl, z5, k1, ⟨t5, k2, x5⟩, f5⟩ := q5
    have k0 := (f5 _ (by omega)).trans k0
    first | refine go_aload_n (i := 0) (pc' := 62) dX10_feed_61 rfl rfl rfl ?_ | refine go_aloadX_n (i := 0) (pc' := 62) dX10_feed_61 rfl rfl rfl ?_ | refine go_aload_nN (i := 0) (pc' := 62) dX10_feed_61 rfl rfl rfl ?_
    refine go_getf (pc' := 65) dX10_feed_62 rfl gf_LandBase_10 k0 rfl ?_
    refine go_getf (pc' := 68) dX10_feed_65 rfl gf_LandBase_73 k1 rfl ?_
    exact Go.ret (v := some (.int _)) dX10_feed_68 ⟨_, rfl⟩ ⟨rfl,(Or.inr ⟨hle, rfl, z5.trans (z4.trans (z3.trans (z2.trans z1))), k1, ⟨t5, k2, ext_5 x1 x2 x3 x4 x5⟩, fun b hb => (f5 b hb).trans ((f4 b hb).trans ((f3 b hb).trans ((f2 b hb).trans (f1 b hb))))⟩)⟩
  · have hgt : 4000 < ts + 40 := by
      rw [e40] at c1
      rcases Nat.lt_or_ge 4000 (ts + 40) with q | q
      · exact q
      · exact absurd ((nI_leI (a := ts + 40) (b := 4000) (by omega) (by omega)).mpr q) c1
    refine go_iconst (v := (-1)) (pc' := 17) dX10_feed_16 rfl (by decide) ?_
    exact Go.ret (v := some (.int _)) dX10_feed_17 ⟨_, rfl⟩ ⟨rfl,(Or.inl ⟨hgt, rfl, rfl⟩)⟩
/-! the reference's -/
set_option maxRecDepth 100000 in
theorem r_lay {G : xG} {h : xH} {F : Nat → Value} {x : Int64} {ts : Nat} {tb : Nat → Int32} (hts : ts + 8 ≤ 4000) (hM : h.2 233 = some (.inr (13, mkF F 58))) (hs : F 40 = .int (nI ts)) (ht : F 39 = .ref 1863) (k2 : h.2 1863 = some (.inl (0, 4000, .inl tb))) : Ca G mX14_lay [.ref 233, .long x] h (fun v h' => v = none ∧ h'.1 = h.1 ∧ (∃ F', h'.2 233 = some (.inr (13, mkF F' 58)) ∧ F' 40 = .int (nI (ts + 8)) ∧ ∀ j, j ≠ 40 → F' j = F j) ∧ (∃ tb', h'.2 1863 = some (.inl (0, 4000, .inl tb')) ∧ ext tb ts 8 (rB x) tb') ∧ ∀ b, (b ≠ 233 ∧ b ≠ 1863) → h'.2 b = h.2 b) := by
  refine Ca.of rfl (Nat.le_of_ble_eq_true rfl) ?_
  have loop : ∀ (m j : Nat) (hc : xH) (tc : Nat → Int32) (Fc : Nat → Value), j + m = 8 → hc.1 = h.1 → hc.2 233 = some (.inr (13, mkF Fc 58)) → Fc 40 = .int (nI (ts + j)) → (∀ j, j ≠ 40 → Fc j = F j) → hc.2 1863 = some (.inl (0, 4000, .inl tc)) → ext tb ts j (rB x) tc → (∀ b, (b ≠ 233 ∧ b ≠ 1863) → hc.2 b = h.2 b) → Go G mX14_lay 3 [some (.ref 233), some (.long x), none, some (.int (shf j))] [] hc (fun v h' => xRok (xRt mX14_lay) v ∧ v = none ∧ h'.1 = h.1 ∧ (∃ F', h'.2 233 = some (.inr (13, mkF F' 58)) ∧ F' 40 = .int (nI (ts + 8)) ∧ ∀ j, j ≠ 40 → F' j = F j) ∧ (∃ tb', h'.2 1863 = some (.inl (0, 4000, .inl tb')) ∧ ext tb ts 8 (rB x) tb') ∧ ∀ b, (b ≠ 233 ∧ b ≠ 1863) → h'.2 b = h.2 b) := by
    intro m
    induction m with
    | zero =>
      intro j hc tc Fc hj hz hM hs hF k2 hx hf
      have e : j = 8 := by omega
      subst e
      refine go_iload_n (i := 3) (pc' := 4) dX14_lay_3 rfl rfl rfl ?_
      refine go_if_lt (pc' := 7) (tgt := 40) dX14_lay_4 (by decide) rfl (fun c1 => ?_) (fun c1 => ?_)
      · exact Go.ret (v := none) dX14_lay_40 rfl ⟨trivial,rfl,hz,⟨Fc,hM,hs,hF⟩,⟨tc,k2,hx⟩,hf⟩
      · exact absurd (by decide) c1
    | succ m ih =>
      intro j hc tc Fc hj hz hM hs hF k2 hx hf
      have hin : vp_in (nI (ts + j)) 4000 := vp_in_nI (by omega) (by omega)
      have hcl : (nI (ts + j)).toNatClampNeg = ts + j := nI_clamp (by omega)
      have ht' : Fc 39 = .ref 1863 := (hF 39 (by omega)).trans ht
      refine go_iload_n (i := 3) (pc' := 4) dX14_lay_3 rfl rfl rfl ?_
      refine go_if_lt (pc' := 7) (tgt := 40) dX14_lay_4 (by decide) rfl (fun c1 => ?_) (fun c1 => ?_)
      · exact absurd c1 (shf_pos j (by omega))
      · have hfr : ∀ b, (b ≠ 233 ∧ b ≠ 1863) → hc.2 b = hc.2 b := fun _ _ => rfl
        first | refine go_aload_n (i := 0) (pc' := 8) dX14_lay_7 rfl rfl rfl ?_ | refine go_aloadX_n (i := 0) (pc' := 8) dX14_lay_7 rfl rfl rfl ?_ | refine go_aload_nN (i := 0) (pc' := 8) dX14_lay_7 rfl rfl rfl ?_
        refine go_getfF (pc' := 11) dX14_lay_8 rfl gf_LandBaseModel_376 hM (by decide) ht' ?_
        first | refine go_aload_n (i := 0) (pc' := 12) dX14_lay_11 rfl rfl rfl ?_ | refine go_aloadX_n (i := 0) (pc' := 12) dX14_lay_11 rfl rfl rfl ?_ | refine go_aload_nN (i := 0) (pc' := 12) dX14_lay_11 rfl rfl rfl ?_
        refine go_getfF (pc' := 15) dX14_lay_12 rfl gf_LandBaseModel_373 hM (by decide) hs ?_
        refine go_lload_n (i := 1) (pc' := 16) dX14_lay_15 rfl rfl rfl ?_
        refine go_iload_n (i := 3) (pc' := 17) dX14_lay_16 rfl rfl rfl ?_
        refine go_lshr (pc' := 18) dX14_lay_17 rfl rfl ?_
        refine go_ldc2 (pc' := 21) dX14_lay_18 rfl wd_1239 ?_
        refine go_land (pc' := 22) dX14_lay_21 rfl ?_
        refine go_l2i (pc' := 23) dX14_lay_22 rfl rfl ?_
        refine go_iastoreK (pc' := 24) dX14_lay_23 rfl k2 hin (fun hp1 zp1 cp1 fp1 => ?_)
        have hz := zp1.trans hz
        have hM := (fp1 _ (by omega)).trans hM
        have hfr : ∀ b, (b ≠ 233 ∧ b ≠ 1863) → hp1.2 b = hc.2 b := fun b hb => (fp1 b (by omega)).trans (hfr b hb)
        have k2 := cp1
        rw [hcl] at k2
        first | refine go_aload_n (i := 0) (pc' := 25) dX14_lay_24 rfl rfl rfl ?_ | refine go_aloadX_n (i := 0) (pc' := 25) dX14_lay_24 rfl rfl rfl ?_ | refine go_aload_nN (i := 0) (pc' := 25) dX14_lay_24 rfl rfl rfl ?_
        refine go_dup (pc' := 26) dX14_lay_25 rfl rfl ?_
        refine go_getfF (pc' := 29) dX14_lay_26 rfl gf_LandBaseModel_373 hM (by decide) hs ?_
        refine go_iconst (v := 1) (pc' := 30) dX14_lay_29 rfl (by decide) ?_
        refine go_iadd (pc' := 31) dX14_lay_30 rfl ?_
        refine go_putfF (pc' := 34) dX14_lay_31 rfl pf_LandBaseModel_373 (fun h => by cases h) hM (by decide) rfl rfl (fun hp2 zp2 cp2 fp2 => ?_)
        have hz := zp2.trans hz
        have k2 := (fp2 _ (by omega)).trans k2
        have hfr : ∀ b, (b ≠ 233 ∧ b ≠ 1863) → hp2.2 b = hc.2 b := fun b hb => (fp2 b (by omega)).trans (hfr b hb)
        have hM := cp2
        refine go_iincC (kk := (-8)) (pc' := 37) dX14_lay_34 rfl rfl (by decide) (by decide) rfl ?_
        refine go_goto (pc' := 0) (tgt := 3) dX14_lay_37 (by decide) ?_
        rw [nI_1] at hM
        rw [shf_next j (by omega)]
        refine ih (j + 1) _ _ _ (by omega) hz hM rfl (fun i hi => ?_) k2 (ext_upd hx) (fun b hb => (hfr b hb).trans (hf b hb))
        simp only [updV, if_neg hi]
        exact hF i hi
  refine go_bipush (v := 56) (pc' := 2) dX14_lay_0 rfl (by decide) ?_
  refine go_istore_n (i := 3) (pc' := 3) dX14_lay_2 rfl rfl (by decide) rfl ?_
  exact loop 8 0 h tb F rfl rfl hM hs (fun _ _ => rfl) k2 (ext_0 _ _ _) (fun _ _ => rfl)
set_option maxRecDepth 100000 in
theorem r_feed {G : xG} {h : xH} {F : Nat → Value} {xa xb xc xd xe : Int64} {ts : Nat} {tb : Nat → Int32} (hts : ts ≤ 4000) (hM : h.2 233 = some (.inr (13, mkF F 58))) (hs : F 40 = .int (nI ts)) (ht : F 39 = .ref 1863) (k2 : h.2 1863 = some (.inl (0, 4000, .inl tb))) : Ca G mX14_feed [.ref 233, .long xa, .long xb, .long xc, .long xd, .long xe] h (fun v h' => (4000 < ts + 40 ∧ v = some (.int (-1)) ∧ h' = h) ∨ (ts + 40 ≤ 4000 ∧ v = some (.int (nI (ts + 40))) ∧ h'.1 = h.1 ∧ (∃ F', h'.2 233 = some (.inr (13, mkF F' 58)) ∧ F' 40 = .int (nI (ts + 40)) ∧ ∀ j, j ≠ 40 → F' j = F j) ∧ (∃ tb', h'.2 1863 = some (.inl (0, 4000, .inl tb')) ∧ ext tb ts 40 (byF rB xa xb xc xd xe) tb') ∧ ∀ b, (b ≠ 233 ∧ b ≠ 1863) → h'.2 b = h.2 b)) := by
  refine Ca.of rfl (Nat.le_of_ble_eq_true rfl) ?_
  have e40 : nI ts + 40 = nI (ts + 40) := nI_add ts 40
  first | refine go_aload_n (i := 0) (pc' := 1) dX14_feed_0 rfl rfl rfl ?_ | refine go_aloadX_n (i := 0) (pc' := 1) dX14_feed_0 rfl rfl rfl ?_ | refine go_aload_nN (i := 0) (pc' := 1) dX14_feed_0 rfl rfl rfl ?_
  refine go_getfF (pc' := 4) dX14_feed_1 rfl gf_LandBaseModel_373 hM (by decide) hs ?_
  refine go_bipush (v := 40) (pc' := 6) dX14_feed_4 rfl (by decide) ?_
  refine go_iadd (pc' := 7) dX14_feed_6 rfl ?_
  refine go_sipush (v := 4000) (pc' := 10) dX14_feed_7 rfl (by decide) ?_
  refine go_icmp_le (pc' := 13) (tgt := 15) dX14_feed_10 (by decide) rfl (fun c1 => ?_) (fun c1 => ?_)
  · have hle : ts + 40 ≤ 4000 := by
      rw [e40] at c1
      exact (nI_leI (a := ts + 40) (b := 4000) (by omega) (by omega)).mp c1
    first | refine go_aload_n (i := 0) (pc' := 16) dX14_feed_15 rfl rfl rfl ?_ | refine go_aloadX_n (i := 0) (pc' := 16) dX14_feed_15 rfl rfl rfl ?_ | refine go_aload_nN (i := 0) (pc' := 16) dX14_feed_15 rfl rfl rfl ?_
    refine go_lload_n (i := 1) (pc' := 17) dX14_feed_16 rfl rfl rfl ?_
    refine go_invV (As := [_]) (pc' := 20) dX14_feed_17 rfl cf_X14_feed_644 rfl hM rfl rfl (Nat.le_of_ble_eq_true rfl) (r_lay (by omega) hM hs ht k2) (fun v1 h1 q1 => ?_)
    obtain ⟨rfl, z1, ⟨F1, hM, hs, g1⟩, ⟨t1, k2, x1⟩, f1⟩ := q1
    have ht := (g1 39 (by omega)).trans ht
    first | refine go_aload_n (i := 0) (pc' := 21) dX14_feed_20 rfl rfl rfl ?_ | refine go_aloadX_n (i := 0) (pc' := 21) dX14_feed_20 rfl rfl rfl ?_ | refine go_aload_nN (i := 0) (pc' := 21) dX14_feed_20 rfl rfl rfl ?_
    refine go_lload_n (i := 3) (pc' := 22) dX14_feed_21 rfl rfl rfl ?_
    refine go_invV (As := [_]) (pc' := 25) dX14_feed_22 rfl cf_X14_feed_644 rfl hM rfl rfl (Nat.le_of_ble_eq_true rfl) (r_lay (by omega) hM hs ht k2) (fun v2 h2 q2 => ?_)
    obtain ⟨rfl, z2, ⟨F2, hM, hs, g2⟩, ⟨t2, k2, x2⟩, f2⟩ := q2
    have ht := (g2 39 (by omega)).trans ht
    first | refine go_aload_n (i := 0) (pc' := 26) dX14_feed_25 rfl rfl rfl ?_ | refine go_aloadX_n (i := 0) (pc' := 26) dX14_feed_25 rfl rfl rfl ?_ | refine go_aload_nN (i := 0) (pc' := 26) dX14_feed_25 rfl rfl rfl ?_
    refine go_lload (pc' := 28) dX14_feed_26 rfl rfl ?_
    refine go_invV (As := [_]) (pc' := 31) dX14_feed_28 rfl cf_X14_feed_644 rfl hM rfl rfl (Nat.le_of_ble_eq_true rfl) (r_lay (by omega) hM hs ht k2) (fun v3 h3 q3 => ?_)
    obtain ⟨rfl, z3, ⟨F3, hM, hs, g3⟩, ⟨t3, k2, x3⟩, f3⟩ := q3
    have ht := (g3 39 (by omega)).trans ht
    first | refine go_aload_n (i := 0) (pc' := 32) dX14_feed_31 rfl rfl rfl ?_ | refine go_aloadX_n (i := 0) (pc' := 32) dX14_feed_31 rfl rfl rfl ?_ | refine go_aload_nN (i := 0) (pc' := 32) dX14_feed_31 rfl rfl rfl ?_
    refine go_lload (pc' := 34) dX14_feed_32 rfl rfl ?_
    refine go_invV (As := [_]) (pc' := 37) dX14_feed_34 rfl cf_X14_feed_644 rfl hM rfl rfl (Nat.le_of_ble_eq_true rfl) (r_lay (by omega) hM hs ht k2) (fun v4 h4 q4 => ?_)
    obtain ⟨rfl, z4, ⟨F4, hM, hs, g4⟩, ⟨t4, k2, x4⟩, f4⟩ := q4
    have ht := (g4 39 (by omega)).trans ht
    first | refine go_aload_n (i := 0) (pc' := 38) dX14_feed_37 rfl rfl rfl ?_ | refine go_aloadX_n (i := 0) (pc' := 38) dX14_feed_37 rfl rfl rfl ?_ | refine go_aload_nN (i := 0) (pc' := 38) dX14_feed_37 rfl rfl rfl ?_
    refine go_lload (pc' := 40) dX14_feed_38 rfl rfl ?_
    refine go_invV (As := [_]) (pc' := 43) dX14_feed_40 rfl cf_X14_feed_644 rfl hM rfl rfl (Nat.le_of_ble_eq_true rfl) (r_lay (by omega) hM hs ht k2) (fun v5 h5 q5 => ?_)
    obtain ⟨rfl, z5, ⟨F5, hM, hs, g5⟩, ⟨t5, k2, x5⟩, f5⟩ := q5
    first | refine go_aload_n (i := 0) (pc' := 44) dX14_feed_43 rfl rfl rfl ?_ | refine go_aloadX_n (i := 0) (pc' := 44) dX14_feed_43 rfl rfl rfl ?_ | refine go_aload_nN (i := 0) (pc' := 44) dX14_feed_43 rfl rfl rfl ?_
    refine go_getfF (pc' := 47) dX14_feed_44 rfl gf_LandBaseModel_373 hM (by decide) hs ?_
    exact Go.ret (v := some (.int _)) dX14_feed_47 ⟨_, rfl⟩ ⟨rfl,(Or.inr ⟨hle, rfl, z5.trans (z4.trans (z3.trans (z2.trans z1))), ⟨F5, hM, hs, fun j hj => (g5 j hj).trans ((g4 j hj).trans ((g3 j hj).trans ((g2 j hj).trans (g1 j hj))))⟩, ⟨t5, k2, ext_5 x1 x2 x3 x4 x5⟩, fun b hb => (f5 b hb).trans ((f4 b hb).trans ((f3 b hb).trans ((f2 b hb).trans (f1 b hb))))⟩)⟩
  · have hgt : 4000 < ts + 40 := by
      rw [e40] at c1
      rcases Nat.lt_or_ge 4000 (ts + 40) with q | q
      · exact q
      · exact absurd ((nI_leI (a := ts + 40) (b := 4000) (by omega) (by omega)).mpr q) c1
    refine go_iconst (v := (-1)) (pc' := 14) dX14_feed_13 rfl (by decide) ?_
    exact Go.ret (v := some (.int _)) dX14_feed_14 ⟨_, rfl⟩ ⟨rfl,(Or.inl ⟨hgt, rfl, rfl⟩)⟩
end
section
/-! looking a shape up -/
abbrev cRefs (t n : Nat) (f : Nat → Option Nat) : xC := .inl (t, n, .inr (.inr (.inr (.inr f))))
theorem ixOf_lt {f : Nat → Int32} {id : Int32} : ∀ (n i j : Nat), ixOf f id i n = some j → i ≤ j ∧ j < i + n := by
  intro n
  induction n with
  | zero => intro i j h; cases h
  | succ n ih =>
    intro i j h
    rw [ixOf] at h
    by_cases c : f i = id
    · rw [if_pos c] at h; cases h; omega
    · rw [if_neg c] at h
      have := ih (i + 1) j h
      omega
/-- the address that stands beside id -/
def shOf (f : Nat → Int32) (sh : Nat → Option Nat) (id : Int32) (n : Nat) : Option Nat := (ixOf f id 0 n).bind sh
theorem rfOk (r : Option Nat) (n : String) : xRok (some (.object n)) (some (va_rf r)) := by cases r <;> trivial
theorem rfRet (r : Option Nat) : xRetI (some (va_rf r)) .areturn := by cases r; exact Or.inl rfl; exact Or.inr ⟨_, rfl⟩
set_option maxRecDepth 100000 in
theorem c_shapeWith {G : xG} {h : xH} {a ai as : Nat} {n : Nat} {f : Nat → Int32} {sh : Nat → Option Nat} {id : Int32} (hn : n ≤ 200) (hh : h.2 a = some (.inr (7, [.ref ai, .ref as, .int (nI n)]))) (hi : h.2 ai = some (.inl (0, 200, .inl f))) (hs : h.2 as = some (cRefs 4 200 sh)) : Ca G mX8_shapeWith [.ref a, .int id] h (fun v h' => v = some (va_rf (shOf f sh id n)) ∧ h' = h) := by
  refine Ca.of rfl (Nat.le_of_ble_eq_true rfl) ?_
  first | refine go_aload_n (i := 0) (pc' := 1) dX8_shapeWith_0 rfl rfl rfl ?_ | refine go_aloadX_n (i := 0) (pc' := 1) dX8_shapeWith_0 rfl rfl rfl ?_ | refine go_aload_nN (i := 0) (pc' := 1) dX8_shapeWith_0 rfl rfl rfl ?_
  refine go_iload_n (i := 1) (pc' := 2) dX8_shapeWith_1 rfl rfl rfl ?_
  refine go_invV (As := [_]) (pc' := 5) dX8_shapeWith_2 rfl cf_X8_shapeWith_25 rfl hh rfl rfl (Nat.le_of_ble_eq_true rfl) (c_Table_indexOf hn hh hi) (fun v1 h1 q1 => ?_)
  obtain ⟨rfl, rfl⟩ := q1
  refine go_istore_n (i := 2) (pc' := 6) dX8_shapeWith_5 rfl rfl (by decide) rfl ?_
  refine go_iload_n (i := 2) (pc' := 7) dX8_shapeWith_6 rfl rfl rfl ?_
  refine go_if_ge (pc' := 10) (tgt := 14) dX8_shapeWith_7 (by decide) rfl (fun c1 => ?_) (fun c1 => ?_)
  · cases e : ixOf f id 0 n with
    | none => rw [e] at c1; exact absurd c1 (by decide)
    | some j =>
      have hj := ixOf_lt n 0 j e
      have hin : vp_in (ixI (some j)) 200 := vp_in_nI (by omega) (by omega)
      have hc : (ixI (some j)).toNatClampNeg = j := nI_clamp (by omega)
      first | refine go_aload_n (i := 0) (pc' := 15) dX8_shapeWith_14 rfl rfl rfl ?_ | refine go_aloadX_n (i := 0) (pc' := 15) dX8_shapeWith_14 rfl rfl rfl ?_ | refine go_aload_nN (i := 0) (pc' := 15) dX8_shapeWith_14 rfl rfl rfl ?_
      refine go_getf (pc' := 18) dX8_shapeWith_15 rfl gf_LandBase_Table_17 hh rfl ?_
      refine go_iload_n (i := 2) (pc' := 19) dX8_shapeWith_18 rfl rfl rfl ?_
      refine go_aaload (pc' := 20) dX8_shapeWith_19 rfl (by decide) hs hin ?_
      rw [hc]
      refine Go.ret (v := some _) dX8_shapeWith_20 (rfRet _) ⟨rfOk _ _, ?_, rfl⟩
      rw [shOf, e]; rfl
  · cases e : ixOf f id 0 n with
    | none =>
      refine go_null (pc' := 11) dX8_shapeWith_10 rfl ?_
      refine go_goto (pc' := 0) (tgt := 20) dX8_shapeWith_11 (by decide) ?_
      refine Go.ret (v := some .null) dX8_shapeWith_20 (Or.inl rfl) ⟨trivial, ?_, rfl⟩
      rw [shOf, e]; rfl
    | some j =>
      have hj := ixOf_lt n 0 j e
      rw [e] at c1
      exact absurd (nI_pos' (n := j) (by omega)) c1
set_option maxRecDepth 100000 in
theorem c_shapeOf {G : xG} {h : xH} {ic off wa pd lg op dn by_ bl sv ck cl id : Int32} {n : Nat} {f : Nat → Int32} {sh : Nat → Option Nat} (hn : n ≤ 200) (k0 : h.2 0 = some (.inr (9, cO ic off wa))) (k10 : h.2 10 = some (.inr (3, cKp pd lg op dn by_ bl sv ck cl))) (k11 : h.2 11 = some (.inr (7, [.ref 12, .ref 13, .int (nI n)]))) (k12 : h.2 12 = some (.inl (0, 200, .inl f))) (k13 : h.2 13 = some (cRefs 4 200 sh)) : Ca G mX10_shapeOf [.ref 0, .int id] h (fun v h' => v = some (va_rf (if dn = 0 then shOf f sh id n else none)) ∧ h' = h) := by
  refine Ca.of rfl (Nat.le_of_ble_eq_true rfl) ?_
  first | refine go_aload_n (i := 0) (pc' := 1) dX10_shapeOf_0 rfl rfl rfl ?_ | refine go_aloadX_n (i := 0) (pc' := 1) dX10_shapeOf_0 rfl rfl rfl ?_ | refine go_aload_nN (i := 0) (pc' := 1) dX10_shapeOf_0 rfl rfl rfl ?_
  refine go_getf (pc' := 4) dX10_shapeOf_1 rfl gf_LandBase_26 k0 rfl ?_
  refine go_getf (pc' := 7) dX10_shapeOf_4 rfl gf_LandBase_80 k10 rfl ?_
  refine go_if_eq (pc' := 10) (tgt := 14) dX10_shapeOf_7 (by decide) rfl (fun c1 => ?_) (fun c1 => ?_)
  · first | refine go_aload_n (i := 0) (pc' := 15) dX10_shapeOf_14 rfl rfl rfl ?_ | refine go_aloadX_n (i := 0) (pc' := 15) dX10_shapeOf_14 rfl rfl rfl ?_ | refine go_aload_nN (i := 0) (pc' := 15) dX10_shapeOf_14 rfl rfl rfl ?_
    refine go_getf (pc' := 18) dX10_shapeOf_15 rfl gf_LandBase_26 k0 rfl ?_
    refine go_getf (pc' := 21) dX10_shapeOf_18 rfl gf_LandBase_145 k10 rfl ?_
    refine go_iload_n (i := 1) (pc' := 22) dX10_shapeOf_21 rfl rfl rfl ?_
    refine go_invV (As := [_]) (pc' := 25) dX10_shapeOf_22 rfl cf_X10_shapeOf_208 rfl k11 rfl rfl (Nat.le_of_ble_eq_true rfl) (c_shapeWith hn k11 k12 k13) (fun v1 h1 q1 => ?_)
    obtain ⟨rfl, rfl⟩ := q1
    rw [if_pos c1]
    exact Go.ret (v := some _) dX10_shapeOf_25 (rfRet _) ⟨rfOk _ _, rfl, rfl⟩
  · refine go_null (pc' := 11) dX10_shapeOf_10 rfl ?_
    refine go_goto (pc' := 0) (tgt := 25) dX10_shapeOf_11 (by decide) ?_
    rw [if_neg c1]
    exact Go.ret (v := some .null) dX10_shapeOf_25 (Or.inl rfl) ⟨trivial, rfl, rfl⟩
/-- a number of the shape beside id, -1 if there is none -/
def numOf (g : Nat → Int32) : Option Nat → Int32
  | none => -1
  | some a => g a
set_option maxRecDepth 100000 in
theorem c_kindOf {G : xG} {h : xH} {ic off wa pd lg op dn by_ bl sv ck cl id : Int32} {n : Nat} {f : Nat → Int32} {sh : Nat → Option Nat} {g : Nat → Int32} (hn : n ≤ 200) (k0 : h.2 0 = some (.inr (9, cO ic off wa))) (k10 : h.2 10 = some (.inr (3, cKp pd lg op dn by_ bl sv ck cl))) (k11 : h.2 11 = some (.inr (7, [.ref 12, .ref 13, .int (nI n)]))) (k12 : h.2 12 = some (.inl (0, 200, .inl f))) (k13 : h.2 13 = some (cRefs 4 200 sh)) (hg : ∀ i a, i < n → sh i = some a → ∃ fs, h.2 a = some (.inr (6, fs)) ∧ fs[0]? = some (.int (g a))) : Ca G mX10_kindOf [.ref 0, .int id] h (fun v h' => v = some (.int (numOf g (if dn = 0 then shOf f sh id n else none))) ∧ h' = h) := by
  refine Ca.of rfl (Nat.le_of_ble_eq_true rfl) ?_
  first | refine go_aload_n (i := 0) (pc' := 1) dX10_kindOf_0 rfl rfl rfl ?_ | refine go_aloadX_n (i := 0) (pc' := 1) dX10_kindOf_0 rfl rfl rfl ?_ | refine go_aload_nN (i := 0) (pc' := 1) dX10_kindOf_0 rfl rfl rfl ?_
  refine go_iload_n (i := 1) (pc' := 2) dX10_kindOf_1 rfl rfl rfl ?_
  refine go_invV (As := [_]) (pc' := 5) dX10_kindOf_2 rfl cf_X10_kindOf_160 rfl k0 rfl rfl (Nat.le_of_ble_eq_true rfl) (c_shapeOf hn k0 k10 k11 k12 k13) (fun v1 h1 q1 => ?_)
  obtain ⟨rfl, rfl⟩ := q1
  cases e : (if dn = 0 then shOf f sh id n else none) with
  | none =>
    refine go_astore_nN (i := 2) (pc' := 6) dX10_kindOf_5 rfl rfl (by decide) rfl ?_
    first | refine go_aload_n (i := 2) (pc' := 7) dX10_kindOf_6 rfl rfl rfl ?_ | refine go_aloadX_n (i := 2) (pc' := 7) dX10_kindOf_6 rfl rfl rfl ?_ | refine go_aload_nN (i := 2) (pc' := 7) dX10_kindOf_6 rfl rfl rfl ?_
    refine go_ifnonnullN (pc' := 10) dX10_kindOf_7 rfl ?_
    refine go_iconst (v := (-1)) (pc' := 11) dX10_kindOf_10 rfl (by decide) ?_
    refine go_goto (pc' := 0) (tgt := 18) dX10_kindOf_11 (by decide) ?_
    exact Go.ret (v := some (.int _)) dX10_kindOf_18 ⟨_, rfl⟩ ⟨rfl,rfl,rfl⟩
  | some a =>
    obtain ⟨fs, ha, hf⟩ : ∃ fs, h1.2 a = some (.inr (6, fs)) ∧ fs[0]? = some (.int (g a)) := by
      by_cases hd : dn = 0
      · rw [if_pos hd, shOf] at e
        cases ei : ixOf f id 0 n with
        | none => rw [ei] at e; cases e
        | some i =>
          rw [ei] at e
          exact hg i a (by have := ixOf_lt n 0 i ei; omega) e
      · rw [if_neg hd] at e; cases e
    refine go_astore_n (i := 2) (x := a) (pc' := 6) dX10_kindOf_5 rfl rfl (by decide) rfl ?_
    first | refine go_aload_n (i := 2) (pc' := 7) dX10_kindOf_6 rfl rfl rfl ?_ | refine go_aloadX_n (i := 2) (pc' := 7) dX10_kindOf_6 rfl rfl rfl ?_ | refine go_aload_nN (i := 2) (pc' := 7) dX10_kindOf_6 rfl rfl rfl ?_
    refine go_ifnonnull (pc' := 0) (tgt := 14) dX10_kindOf_7 (by decide) ?_
    first | refine go_aload_n (i := 2) (pc' := 15) dX10_kindOf_14 rfl rfl rfl ?_ | refine go_aloadX_n (i := 2) (pc' := 15) dX10_kindOf_14 rfl rfl rfl ?_ | refine go_aload_nN (i := 2) (pc' := 15) dX10_kindOf_14 rfl rfl rfl ?_
    refine go_getf (pc' := 18) dX10_kindOf_15 rfl gf_LandBase_164 ha hf ?_
    exact Go.ret (v := some (.int _)) dX10_kindOf_18 ⟨_, rfl⟩ ⟨rfl,rfl,rfl⟩
set_option maxRecDepth 100000 in
theorem c_places {G : xG} {h : xH} {ic off wa pd lg op dn by_ bl sv ck cl id : Int32} {n : Nat} {f : Nat → Int32} {sh : Nat → Option Nat} {g : Nat → Int32} (hn : n ≤ 200) (k0 : h.2 0 = some (.inr (9, cO ic off wa))) (k10 : h.2 10 = some (.inr (3, cKp pd lg op dn by_ bl sv ck cl))) (k11 : h.2 11 = some (.inr (7, [.ref 12, .ref 13, .int (nI n)]))) (k12 : h.2 12 = some (.inl (0, 200, .inl f))) (k13 : h.2 13 = some (cRefs 4 200 sh)) (hg : ∀ i a, i < n → sh i = some a → ∃ fs, h.2 a = some (.inr (6, fs)) ∧ fs[1]? = some (.int (g a))) : Ca G mX10_places [.ref 0, .int id] h (fun v h' => v = some (.int (numOf g (if dn = 0 then shOf f sh id n else none))) ∧ h' = h) := by
  refine Ca.of rfl (Nat.le_of_ble_eq_true rfl) ?_
  first | refine go_aload_n (i := 0) (pc' := 1) dX10_places_0 rfl rfl rfl ?_ | refine go_aloadX_n (i := 0) (pc' := 1) dX10_places_0 rfl rfl rfl ?_ | refine go_aload_nN (i := 0) (pc' := 1) dX10_places_0 rfl rfl rfl ?_
  refine go_iload_n (i := 1) (pc' := 2) dX10_places_1 rfl rfl rfl ?_
  refine go_invV (As := [_]) (pc' := 5) dX10_places_2 rfl cf_X10_places_160 rfl k0 rfl rfl (Nat.le_of_ble_eq_true rfl) (c_shapeOf hn k0 k10 k11 k12 k13) (fun v1 h1 q1 => ?_)
  obtain ⟨rfl, rfl⟩ := q1
  cases e : (if dn = 0 then shOf f sh id n else none) with
  | none =>
    refine go_astore_nN (i := 2) (pc' := 6) dX10_places_5 rfl rfl (by decide) rfl ?_
    first | refine go_aload_n (i := 2) (pc' := 7) dX10_places_6 rfl rfl rfl ?_ | refine go_aloadX_n (i := 2) (pc' := 7) dX10_places_6 rfl rfl rfl ?_ | refine go_aload_nN (i := 2) (pc' := 7) dX10_places_6 rfl rfl rfl ?_
    refine go_ifnonnullN (pc' := 10) dX10_places_7 rfl ?_
    refine go_iconst (v := (-1)) (pc' := 11) dX10_places_10 rfl (by decide) ?_
    refine go_goto (pc' := 0) (tgt := 18) dX10_places_11 (by decide) ?_
    exact Go.ret (v := some (.int _)) dX10_places_18 ⟨_, rfl⟩ ⟨rfl,rfl,rfl⟩
  | some a =>
    obtain ⟨fs, ha, hf⟩ : ∃ fs, h1.2 a = some (.inr (6, fs)) ∧ fs[1]? = some (.int (g a)) := by
      by_cases hd : dn = 0
      · rw [if_pos hd, shOf] at e
        cases ei : ixOf f id 0 n with
        | none => rw [ei] at e; cases e
        | some i =>
          rw [ei] at e
          exact hg i a (by have := ixOf_lt n 0 i ei; omega) e
      · rw [if_neg hd] at e; cases e
    refine go_astore_n (i := 2) (x := a) (pc' := 6) dX10_places_5 rfl rfl (by decide) rfl ?_
    first | refine go_aload_n (i := 2) (pc' := 7) dX10_places_6 rfl rfl rfl ?_ | refine go_aloadX_n (i := 2) (pc' := 7) dX10_places_6 rfl rfl rfl ?_ | refine go_aload_nN (i := 2) (pc' := 7) dX10_places_6 rfl rfl rfl ?_
    refine go_ifnonnull (pc' := 0) (tgt := 14) dX10_places_7 (by decide) ?_
    first | refine go_aload_n (i := 2) (pc' := 15) dX10_places_14 rfl rfl rfl ?_ | refine go_aloadX_n (i := 2) (pc' := 15) dX10_places_14 rfl rfl rfl ?_ | refine go_aload_nN (i := 2) (pc' := 15) dX10_places_14 rfl rfl rfl ?_
    refine go_getf (pc' := 18) dX10_places_15 rfl gf_LandBase_169 ha hf ?_
    exact Go.ret (v := some (.int _)) dX10_places_18 ⟨_, rfl⟩ ⟨rfl,rfl,rfl⟩
set_option maxRecDepth 100000 in
theorem c_rings {G : xG} {h : xH} {ic off wa pd lg op dn by_ bl sv ck cl id : Int32} {n : Nat} {f : Nat → Int32} {sh : Nat → Option Nat} {g : Nat → Int32} (hn : n ≤ 200) (k0 : h.2 0 = some (.inr (9, cO ic off wa))) (k10 : h.2 10 = some (.inr (3, cKp pd lg op dn by_ bl sv ck cl))) (k11 : h.2 11 = some (.inr (7, [.ref 12, .ref 13, .int (nI n)]))) (k12 : h.2 12 = some (.inl (0, 200, .inl f))) (k13 : h.2 13 = some (cRefs 4 200 sh)) (hg : ∀ i a, i < n → sh i = some a → ∃ fs, h.2 a = some (.inr (6, fs)) ∧ fs[2]? = some (.int (g a))) : Ca G mX10_rings [.ref 0, .int id] h (fun v h' => v = some (.int (numOf g (if dn = 0 then shOf f sh id n else none))) ∧ h' = h) := by
  refine Ca.of rfl (Nat.le_of_ble_eq_true rfl) ?_
  first | refine go_aload_n (i := 0) (pc' := 1) dX10_rings_0 rfl rfl rfl ?_ | refine go_aloadX_n (i := 0) (pc' := 1) dX10_rings_0 rfl rfl rfl ?_ | refine go_aload_nN (i := 0) (pc' := 1) dX10_rings_0 rfl rfl rfl ?_
  refine go_iload_n (i := 1) (pc' := 2) dX10_rings_1 rfl rfl rfl ?_
  refine go_invV (As := [_]) (pc' := 5) dX10_rings_2 rfl cf_X10_rings_160 rfl k0 rfl rfl (Nat.le_of_ble_eq_true rfl) (c_shapeOf hn k0 k10 k11 k12 k13) (fun v1 h1 q1 => ?_)
  obtain ⟨rfl, rfl⟩ := q1
  cases e : (if dn = 0 then shOf f sh id n else none) with
  | none =>
    refine go_astore_nN (i := 2) (pc' := 6) dX10_rings_5 rfl rfl (by decide) rfl ?_
    first | refine go_aload_n (i := 2) (pc' := 7) dX10_rings_6 rfl rfl rfl ?_ | refine go_aloadX_n (i := 2) (pc' := 7) dX10_rings_6 rfl rfl rfl ?_ | refine go_aload_nN (i := 2) (pc' := 7) dX10_rings_6 rfl rfl rfl ?_
    refine go_ifnonnullN (pc' := 10) dX10_rings_7 rfl ?_
    refine go_iconst (v := (-1)) (pc' := 11) dX10_rings_10 rfl (by decide) ?_
    refine go_goto (pc' := 0) (tgt := 18) dX10_rings_11 (by decide) ?_
    exact Go.ret (v := some (.int _)) dX10_rings_18 ⟨_, rfl⟩ ⟨rfl,rfl,rfl⟩
  | some a =>
    obtain ⟨fs, ha, hf⟩ : ∃ fs, h1.2 a = some (.inr (6, fs)) ∧ fs[2]? = some (.int (g a)) := by
      by_cases hd : dn = 0
      · rw [if_pos hd, shOf] at e
        cases ei : ixOf f id 0 n with
        | none => rw [ei] at e; cases e
        | some i =>
          rw [ei] at e
          exact hg i a (by have := ixOf_lt n 0 i ei; omega) e
      · rw [if_neg hd] at e; cases e
    refine go_astore_n (i := 2) (x := a) (pc' := 6) dX10_rings_5 rfl rfl (by decide) rfl ?_
    first | refine go_aload_n (i := 2) (pc' := 7) dX10_rings_6 rfl rfl rfl ?_ | refine go_aloadX_n (i := 2) (pc' := 7) dX10_rings_6 rfl rfl rfl ?_ | refine go_aload_nN (i := 2) (pc' := 7) dX10_rings_6 rfl rfl rfl ?_
    refine go_ifnonnull (pc' := 0) (tgt := 14) dX10_rings_7 (by decide) ?_
    first | refine go_aload_n (i := 2) (pc' := 15) dX10_rings_14 rfl rfl rfl ?_ | refine go_aloadX_n (i := 2) (pc' := 15) dX10_rings_14 rfl rfl rfl ?_ | refine go_aload_nN (i := 2) (pc' := 15) dX10_rings_14 rfl rfl rfl ?_
    refine go_getf (pc' := 18) dX10_rings_15 rfl gf_LandBase_170 ha hf ?_
    exact Go.ret (v := some (.int _)) dX10_rings_18 ⟨_, rfl⟩ ⟨rfl,rfl,rfl⟩
end
section
/-! THE FIRST CALL: what each method does on fresh objects -/
set_option maxRecDepth 100000 in
theorem c_at0 {G : xG} {h : xH} {i j p : Int32} (hS : Ca G mX10_shapeOf [.ref 0, .int i] h (fun v h' => v = some .null ∧ h' = h)) {fs : List Value} (k0 : h.2 0 = some (.inr (9, fs))) : Ca G mX10_at [.ref 0, .int i, .int j, .int p] h (fun v h' => v = some (.int 0) ∧ h' = h) := by
  refine Ca.of rfl (Nat.le_of_ble_eq_true rfl) ?_
  first | refine go_aload_n (i := 0) (pc' := 1) dX10_at_0 rfl rfl rfl ?_ | refine go_aloadX_n (i := 0) (pc' := 1) dX10_at_0 rfl rfl rfl ?_ | refine go_aload_nN (i := 0) (pc' := 1) dX10_at_0 rfl rfl rfl ?_
  refine go_iload_n (i := 1) (pc' := 2) dX10_at_1 rfl rfl rfl ?_
  refine go_invV (As := [_]) (pc' := 5) dX10_at_2 rfl cf_X10_at_160 rfl k0 rfl rfl (Nat.le_of_ble_eq_true rfl) hS (fun v1 h1 q1 => ?_)
  obtain ⟨rfl, rfl⟩ := q1
  refine go_astoreN (pc' := 7) dX10_at_5 rfl (by decide) rfl ?_
  first | refine go_aload (pc' := 9) dX10_at_7 rfl rfl ?_ | refine go_aloadX (pc' := 9) dX10_at_7 rfl rfl ?_ | refine go_aloadN (pc' := 9) dX10_at_7 rfl rfl ?_
  refine go_ifnullN (pc' := 0) (tgt := 34) dX10_at_9 (by decide) ?_
  refine go_iconst (v := 0) (pc' := 35) dX10_at_34 rfl (by decide) ?_
  exact Go.ret (v := some (.int _)) dX10_at_35 ⟨_, rfl⟩ ⟨rfl,rfl,rfl⟩
set_option maxRecDepth 100000 in
theorem c_relate0 {G : xG} {h : xH} {r a b : Int32} (hS : ∀ i, Ca G mX10_shapeOf [.ref 0, .int i] h (fun v h' => v = some .null ∧ h' = h)) {fs : List Value} (k0 : h.2 0 = some (.inr (9, fs))) : Ca G mX10_relate [.ref 0, .int r, .int a, .int b] h (fun v h' => v = some (.int (-1)) ∧ h' = h) := by
  refine Ca.of rfl (Nat.le_of_ble_eq_true rfl) ?_
  first | refine go_aload_n (i := 0) (pc' := 1) dX10_relate_0 rfl rfl rfl ?_ | refine go_aloadX_n (i := 0) (pc' := 1) dX10_relate_0 rfl rfl rfl ?_ | refine go_aload_nN (i := 0) (pc' := 1) dX10_relate_0 rfl rfl rfl ?_
  refine go_iload_n (i := 2) (pc' := 2) dX10_relate_1 rfl rfl rfl ?_
  refine go_invV (As := [_]) (pc' := 5) dX10_relate_2 rfl cf_X10_relate_160 rfl k0 rfl rfl (Nat.le_of_ble_eq_true rfl) (hS _) (fun v1 h1 q1 => ?_)
  obtain ⟨rfl, rfl⟩ := q1
  refine go_astoreN (pc' := 7) dX10_relate_5 rfl (by decide) rfl ?_
  first | refine go_aload_n (i := 0) (pc' := 8) dX10_relate_7 rfl rfl rfl ?_ | refine go_aloadX_n (i := 0) (pc' := 8) dX10_relate_7 rfl rfl rfl ?_ | refine go_aload_nN (i := 0) (pc' := 8) dX10_relate_7 rfl rfl rfl ?_
  refine go_iload_n (i := 3) (pc' := 9) dX10_relate_8 rfl rfl rfl ?_
  refine go_invV (As := [_]) (pc' := 12) dX10_relate_9 rfl cf_X10_relate_160 rfl k0 rfl rfl (Nat.le_of_ble_eq_true rfl) (hS _) (fun v1 h2 q1 => ?_)
  obtain ⟨rfl, rfl⟩ := q1
  refine go_astoreN (pc' := 14) dX10_relate_12 rfl (by decide) rfl ?_
  first | refine go_aload (pc' := 16) dX10_relate_14 rfl rfl ?_ | refine go_aloadX (pc' := 16) dX10_relate_14 rfl rfl ?_ | refine go_aloadN (pc' := 16) dX10_relate_14 rfl rfl ?_
  refine go_ifnullN (pc' := 0) (tgt := 33) dX10_relate_16 (by decide) ?_
  refine go_iconst (v := (-1)) (pc' := 34) dX10_relate_33 rfl (by decide) ?_
  exact Go.ret (v := some (.int _)) dX10_relate_34 ⟨_, rfl⟩ ⟨rfl,rfl,rfl⟩
set_option maxRecDepth 100000 in
theorem c_nearer0 {G : xG} {h : xH} {a b x y : Int32} (hS : ∀ i, Ca G mX10_shapeOf [.ref 0, .int i] h (fun v h' => v = some .null ∧ h' = h)) {fs : List Value} (k0 : h.2 0 = some (.inr (9, fs))) : Ca G mX10_nearer [.ref 0, .int a, .int b, .int x, .int y] h (fun v h' => v = some (.int (-2)) ∧ h' = h) := by
  refine Ca.of rfl (Nat.le_of_ble_eq_true rfl) ?_
  first | refine go_aload_n (i := 0) (pc' := 1) dX10_nearer_0 rfl rfl rfl ?_ | refine go_aloadX_n (i := 0) (pc' := 1) dX10_nearer_0 rfl rfl rfl ?_ | refine go_aload_nN (i := 0) (pc' := 1) dX10_nearer_0 rfl rfl rfl ?_
  refine go_iload_n (i := 1) (pc' := 2) dX10_nearer_1 rfl rfl rfl ?_
  refine go_invV (As := [_]) (pc' := 5) dX10_nearer_2 rfl cf_X10_nearer_160 rfl k0 rfl rfl (Nat.le_of_ble_eq_true rfl) (hS _) (fun v1 h1 q1 => ?_)
  obtain ⟨rfl, rfl⟩ := q1
  refine go_astoreN (pc' := 7) dX10_nearer_5 rfl (by decide) rfl ?_
  first | refine go_aload_n (i := 0) (pc' := 8) dX10_nearer_7 rfl rfl rfl ?_ | refine go_aloadX_n (i := 0) (pc' := 8) dX10_nearer_7 rfl rfl rfl ?_ | refine go_aload_nN (i := 0) (pc' := 8) dX10_nearer_7 rfl rfl rfl ?_
  refine go_iload_n (i := 2) (pc' := 9) dX10_nearer_8 rfl rfl rfl ?_
  refine go_invV (As := [_]) (pc' := 12) dX10_nearer_9 rfl cf_X10_nearer_160 rfl k0 rfl rfl (Nat.le_of_ble_eq_true rfl) (hS _) (fun v1 h2 q1 => ?_)
  obtain ⟨rfl, rfl⟩ := q1
  refine go_astoreN (pc' := 14) dX10_nearer_12 rfl (by decide) rfl ?_
  first | refine go_aload (pc' := 16) dX10_nearer_14 rfl rfl ?_ | refine go_aloadX (pc' := 16) dX10_nearer_14 rfl rfl ?_ | refine go_aloadN (pc' := 16) dX10_nearer_14 rfl rfl ?_
  refine go_ifnullN (pc' := 0) (tgt := 41) dX10_nearer_16 (by decide) ?_
  refine go_bipush (v := (-2)) (pc' := 43) dX10_nearer_41 rfl (by decide) ?_
  exact Go.ret (v := some (.int _)) dX10_nearer_43 ⟨_, rfl⟩ ⟨rfl,rfl,rfl⟩
set_option maxRecDepth 100000 in
theorem c_badRows0 {G : xG} {h : xH} {a : Nat} {x y : Value} (hh : h.2 a = some (.inr (7, [x, y, .int 0]))) : Ca G mX8_countBadRows [.ref a] h (fun v h' => v = some (.int 0) ∧ h' = h) := by
  refine Ca.of rfl (Nat.le_of_ble_eq_true rfl) ?_
  refine go_iconst (v := 0) (pc' := 1) dX8_countBadRows_0 rfl (by decide) ?_
  refine go_istore_n (i := 1) (pc' := 2) dX8_countBadRows_1 rfl rfl (by decide) rfl ?_
  refine go_iconst (v := 0) (pc' := 3) dX8_countBadRows_2 rfl (by decide) ?_
  refine go_istore_n (i := 2) (pc' := 4) dX8_countBadRows_3 rfl rfl (by decide) rfl ?_
  refine go_iload_n (i := 2) (pc' := 5) dX8_countBadRows_4 rfl rfl rfl ?_
  first | refine go_aload_n (i := 0) (pc' := 6) dX8_countBadRows_5 rfl rfl rfl ?_ | refine go_aloadX_n (i := 0) (pc' := 6) dX8_countBadRows_5 rfl rfl rfl ?_ | refine go_aload_nN (i := 0) (pc' := 6) dX8_countBadRows_5 rfl rfl rfl ?_
  refine go_getf (pc' := 9) dX8_countBadRows_6 rfl gf_LandBase_Table_21 hh rfl ?_
  refine go_icmp_ge (pc' := 12) (tgt := 133) dX8_countBadRows_9 (by decide) rfl (fun c1 => ?_) (fun c1 => ?_)
  · refine go_iload_n (i := 1) (pc' := 134) dX8_countBadRows_133 rfl rfl rfl ?_
    exact Go.ret (v := some (.int _)) dX8_countBadRows_134 ⟨_, rfl⟩ ⟨rfl,rfl,rfl⟩
  · exact absurd (by decide) c1
set_option maxRecDepth 100000 in
theorem c_flaws0 {G : xG} {h : xH} {fs : List Value} (hfs : fs[2]? = some (.ref 10)) {x y x2 y2 : Value} (k0 : h.2 0 = some (.inr (9, fs))) (k10 : h.2 10 = some (.inr (3, cKp 0 0 0 0 0 0 0 (-1) 0))) (k11 : h.2 11 = some (.inr (7, [x, y, .int 0]))) (k14 : h.2 14 = some (.inr (7, [x2, y2, .int 0]))) : Ca G mX10_flaws [.ref 0] h (fun v h' => v = some (.int 0) ∧ h' = h) := by
  have inner : Ca G mX3_countFlaws [.ref 10] h (fun v h' => v = some (.int 0) ∧ h' = h) := by
    refine Ca.of rfl (Nat.le_of_ble_eq_true rfl) ?_
    first | refine go_aload_n (i := 0) (pc' := 1) dX3_countFlaws_0 rfl rfl rfl ?_ | refine go_aloadX_n (i := 0) (pc' := 1) dX3_countFlaws_0 rfl rfl rfl ?_ | refine go_aload_nN (i := 0) (pc' := 1) dX3_countFlaws_0 rfl rfl rfl ?_
    refine go_getf (pc' := 4) dX3_countFlaws_1 rfl gf_LandBase_Keeper_12 k10 rfl ?_
    refine go_invV (As := []) (pc' := 7) dX3_countFlaws_4 rfl cf_X3_countFlaws_81 rfl k11 rfl rfl (Nat.le_of_ble_eq_true rfl) (c_badRows0 k11) (fun v1 h1 q1 => ?_)
    obtain ⟨rfl, rfl⟩ := q1
    first | refine go_aload_n (i := 0) (pc' := 8) dX3_countFlaws_7 rfl rfl rfl ?_ | refine go_aloadX_n (i := 0) (pc' := 8) dX3_countFlaws_7 rfl rfl rfl ?_ | refine go_aload_nN (i := 0) (pc' := 8) dX3_countFlaws_7 rfl rfl rfl ?_
    refine go_getf (pc' := 11) dX3_countFlaws_8 rfl gf_LandBase_Keeper_18 k10 rfl ?_
    refine go_invV (As := []) (pc' := 14) dX3_countFlaws_11 rfl cf_X3_countFlaws_81 rfl k14 rfl rfl (Nat.le_of_ble_eq_true rfl) (c_badRows0 k14) (fun v1 h2 q1 => ?_)
    obtain ⟨rfl, rfl⟩ := q1
    refine go_iadd (pc' := 15) dX3_countFlaws_14 rfl ?_
    refine go_istore_n (i := 1) (pc' := 16) dX3_countFlaws_15 rfl rfl (by decide) rfl ?_
    first | refine go_aload_n (i := 0) (pc' := 17) dX3_countFlaws_16 rfl rfl rfl ?_ | refine go_aloadX_n (i := 0) (pc' := 17) dX3_countFlaws_16 rfl rfl rfl ?_ | refine go_aload_nN (i := 0) (pc' := 17) dX3_countFlaws_16 rfl rfl rfl ?_
    refine go_getf (pc' := 20) dX3_countFlaws_17 rfl gf_LandBase_Keeper_69 k10 rfl ?_
    refine go_if_lt (pc' := 23) (tgt := 49) dX3_countFlaws_20 (by decide) rfl (fun c1 => ?_) (fun c1 => ?_)
    · exact absurd c1 (by decide)
    · first | refine go_aload_n (i := 0) (pc' := 24) dX3_countFlaws_23 rfl rfl rfl ?_ | refine go_aloadX_n (i := 0) (pc' := 24) dX3_countFlaws_23 rfl rfl rfl ?_ | refine go_aload_nN (i := 0) (pc' := 24) dX3_countFlaws_23 rfl rfl rfl ?_
      refine go_getf (pc' := 27) dX3_countFlaws_24 rfl gf_LandBase_Keeper_69 k10 rfl ?_
      refine go_bipush (v := 64) (pc' := 29) dX3_countFlaws_27 rfl (by decide) ?_
      refine go_icmp_gt (pc' := 32) (tgt := 49) dX3_countFlaws_29 (by decide) rfl (fun c2 => ?_) (fun c2 => ?_)
      · exact absurd c2 (by decide)
      · first | refine go_aload_n (i := 0) (pc' := 33) dX3_countFlaws_32 rfl rfl rfl ?_ | refine go_aloadX_n (i := 0) (pc' := 33) dX3_countFlaws_32 rfl rfl rfl ?_ | refine go_aload_nN (i := 0) (pc' := 33) dX3_countFlaws_32 rfl rfl rfl ?_
        refine go_getf (pc' := 36) dX3_countFlaws_33 rfl gf_LandBase_Keeper_45 k10 rfl ?_
        refine go_if_lt (pc' := 39) (tgt := 49) dX3_countFlaws_36 (by decide) rfl (fun c3 => ?_) (fun c3 => ?_)
        · exact absurd c3 (by decide)
        · first | refine go_aload_n (i := 0) (pc' := 40) dX3_countFlaws_39 rfl rfl rfl ?_ | refine go_aloadX_n (i := 0) (pc' := 40) dX3_countFlaws_39 rfl rfl rfl ?_ | refine go_aload_nN (i := 0) (pc' := 40) dX3_countFlaws_39 rfl rfl rfl ?_
          refine go_getf (pc' := 43) dX3_countFlaws_40 rfl gf_LandBase_Keeper_45 k10 rfl ?_
          refine go_sipush (v := 14112) (pc' := 46) dX3_countFlaws_43 rfl (by decide) ?_
          refine go_icmp_le (pc' := 49) (tgt := 52) dX3_countFlaws_46 (by decide) rfl (fun c4 => ?_) (fun c4 => ?_)
          · first | refine go_aload_n (i := 0) (pc' := 53) dX3_countFlaws_52 rfl rfl rfl ?_ | refine go_aloadX_n (i := 0) (pc' := 53) dX3_countFlaws_52 rfl rfl rfl ?_ | refine go_aload_nN (i := 0) (pc' := 53) dX3_countFlaws_52 rfl rfl rfl ?_
            refine go_getf (pc' := 56) dX3_countFlaws_53 rfl gf_LandBase_Keeper_41 k10 rfl ?_
            refine go_if_ne (pc' := 59) (tgt := 86) dX3_countFlaws_56 (by decide) rfl (fun c5 => ?_) (fun c5 => ?_)
            · exact absurd rfl c5
            · first | refine go_aload_n (i := 0) (pc' := 60) dX3_countFlaws_59 rfl rfl rfl ?_ | refine go_aloadX_n (i := 0) (pc' := 60) dX3_countFlaws_59 rfl rfl rfl ?_ | refine go_aload_nN (i := 0) (pc' := 60) dX3_countFlaws_59 rfl rfl rfl ?_
              refine go_getf (pc' := 63) dX3_countFlaws_60 rfl gf_LandBase_Keeper_75 k10 rfl ?_
              refine go_if_ne (pc' := 66) (tgt := 86) dX3_countFlaws_63 (by decide) rfl (fun c6 => ?_) (fun c6 => ?_)
              · exact absurd rfl c6
              · first | refine go_aload_n (i := 0) (pc' := 67) dX3_countFlaws_66 rfl rfl rfl ?_ | refine go_aloadX_n (i := 0) (pc' := 67) dX3_countFlaws_66 rfl rfl rfl ?_ | refine go_aload_nN (i := 0) (pc' := 67) dX3_countFlaws_66 rfl rfl rfl ?_
                refine go_getf (pc' := 70) dX3_countFlaws_67 rfl gf_LandBase_Keeper_12 k10 rfl ?_
                refine go_getf (pc' := 73) dX3_countFlaws_70 rfl gf_LandBase_Keeper_84 k11 rfl ?_
                first | refine go_aload_n (i := 0) (pc' := 74) dX3_countFlaws_73 rfl rfl rfl ?_ | refine go_aloadX_n (i := 0) (pc' := 74) dX3_countFlaws_73 rfl rfl rfl ?_ | refine go_aload_nN (i := 0) (pc' := 74) dX3_countFlaws_73 rfl rfl rfl ?_
                refine go_getf (pc' := 77) dX3_countFlaws_74 rfl gf_LandBase_Keeper_18 k10 rfl ?_
                refine go_getf (pc' := 80) dX3_countFlaws_77 rfl gf_LandBase_Keeper_84 k14 rfl ?_
                refine go_icmp_eq (pc' := 83) (tgt := 86) dX3_countFlaws_80 (by decide) rfl (fun c7 => ?_) (fun c7 => ?_)
                · refine go_iload_n (i := 1) (pc' := 87) dX3_countFlaws_86 rfl rfl rfl ?_
                  exact Go.ret (v := some (.int _)) dX3_countFlaws_87 ⟨_, rfl⟩ ⟨rfl,rfl,rfl⟩
                · exact absurd rfl c7
          · exact absurd (by decide) c4
  refine Ca.of rfl (Nat.le_of_ble_eq_true rfl) ?_
  first | refine go_aload_n (i := 0) (pc' := 1) dX10_flaws_0 rfl rfl rfl ?_ | refine go_aloadX_n (i := 0) (pc' := 1) dX10_flaws_0 rfl rfl rfl ?_ | refine go_aload_nN (i := 0) (pc' := 1) dX10_flaws_0 rfl rfl rfl ?_
  refine go_getf (pc' := 4) dX10_flaws_1 rfl gf_LandBase_26 k0 hfs ?_
  refine go_invV (As := []) (pc' := 7) dX10_flaws_4 rfl cf_X10_flaws_201 rfl k10 rfl rfl (Nat.le_of_ble_eq_true rfl) inner (fun v1 h1 q1 => ?_)
  obtain ⟨rfl, rfl⟩ := q1
  exact Go.ret (v := some (.int _)) dX10_flaws_7 ⟨_, rfl⟩ ⟨rfl,rfl,rfl⟩
set_option maxRecDepth 100000 in
theorem c_copy0 {G : xG} {h : xH} {a b : Nat} {x y x2 y2 : Value} (hz : h.1 = h.1) (hh : h.2 a = some (.inr (7, [x, y, .int 0]))) (ho : h.2 b = some (.inr (7, [x2, y2, .int 0]))) : Ca G mX8_copyFrom [.ref a, .ref b] h (fun v h' => v = none ∧ h'.1 = h.1 ∧ h'.2 a = some (.inr (7, [x, y, .int 0])) ∧ ∀ c, c ≠ a → h'.2 c = h.2 c) := by
  refine Ca.of rfl (Nat.le_of_ble_eq_true rfl) ?_
  refine go_iconst (v := 0) (pc' := 1) dX8_copyFrom_0 rfl (by decide) ?_
  refine go_istore_n (i := 2) (pc' := 2) dX8_copyFrom_1 rfl rfl (by decide) rfl ?_
  refine go_iload_n (i := 2) (pc' := 3) dX8_copyFrom_2 rfl rfl rfl ?_
  first | refine go_aload_n (i := 0) (pc' := 4) dX8_copyFrom_3 rfl rfl rfl ?_ | refine go_aloadX_n (i := 0) (pc' := 4) dX8_copyFrom_3 rfl rfl rfl ?_ | refine go_aload_nN (i := 0) (pc' := 4) dX8_copyFrom_3 rfl rfl rfl ?_
  refine go_getf (pc' := 7) dX8_copyFrom_4 rfl gf_LandBase_Table_21 hh rfl ?_
  refine go_icmp_ge (pc' := 10) (tgt := 31) dX8_copyFrom_7 (by decide) rfl (fun c1 => ?_) (fun c1 => ?_)
  · have hfr : ∀ b, (b ≠ a) → h.2 b = h.2 b := fun _ _ => rfl
    first | refine go_aload_n (i := 0) (pc' := 32) dX8_copyFrom_31 rfl rfl rfl ?_ | refine go_aloadX_n (i := 0) (pc' := 32) dX8_copyFrom_31 rfl rfl rfl ?_ | refine go_aload_nN (i := 0) (pc' := 32) dX8_copyFrom_31 rfl rfl rfl ?_
    first | refine go_aload_n (i := 1) (pc' := 33) dX8_copyFrom_32 rfl rfl rfl ?_ | refine go_aloadX_n (i := 1) (pc' := 33) dX8_copyFrom_32 rfl rfl rfl ?_ | refine go_aload_nN (i := 1) (pc' := 33) dX8_copyFrom_32 rfl rfl rfl ?_
    refine go_getf (pc' := 36) dX8_copyFrom_33 rfl gf_LandBase_Table_21 ho rfl ?_
    refine go_putfK (pc' := 39) dX8_copyFrom_36 rfl pf_LandBase_Table_21 (fun h => by cases h) hh (Nat.le_of_ble_eq_true rfl) rfl rfl (fun hp1 zp1 cp1 fp1 => ?_)
    dsimp only [List.set] at cp1
    have hz := zp1.trans hz
    have hfr : ∀ b, (b ≠ a) → hp1.2 b = h.2 b := fun b hb => (fp1 b (by omega)).trans (hfr b hb)
    have hh := cp1
    refine go_iconst (v := 0) (pc' := 40) dX8_copyFrom_39 rfl (by decide) ?_
    refine go_istore_n (i := 2) (pc' := 41) dX8_copyFrom_40 rfl rfl (by decide) rfl ?_
    refine go_iload_n (i := 2) (pc' := 42) dX8_copyFrom_41 rfl rfl rfl ?_
    first | refine go_aload_n (i := 0) (pc' := 43) dX8_copyFrom_42 rfl rfl rfl ?_ | refine go_aloadX_n (i := 0) (pc' := 43) dX8_copyFrom_42 rfl rfl rfl ?_ | refine go_aload_nN (i := 0) (pc' := 43) dX8_copyFrom_42 rfl rfl rfl ?_
    refine go_getf (pc' := 46) dX8_copyFrom_43 rfl gf_LandBase_Table_21 hh rfl ?_
    refine go_icmp_ge (pc' := 49) (tgt := 94) dX8_copyFrom_46 (by decide) rfl (fun c2 => ?_) (fun c2 => ?_)
    · exact Go.ret (v := none) dX8_copyFrom_94 rfl ⟨trivial,rfl,hz,hh,hfr⟩
    · exact absurd (by decide) c2
  · exact absurd (by decide) c1
set_option maxRecDepth 100000 in
theorem c_recover0 {G : xG} {h : xH} {fs : List Value} (hfs : fs[2]? = some (.ref 10)) {pd lg op dn by_ bl sv ck cl : Int32} {x y x2 y2 : Value} (k0 : h.2 0 = some (.inr (9, fs))) (k10 : h.2 10 = some (.inr (3, cKp pd lg op dn by_ bl sv ck cl))) (k11 : h.2 11 = some (.inr (7, [x, y, .int 0]))) (k14 : h.2 14 = some (.inr (7, [x2, y2, .int 0]))) : Ca G mX10_recover [.ref 0] h (fun v h' => v = some (.int 0) ∧ h'.1 = h.1 ∧ ∀ b, (b ≠ 10 ∧ b ≠ 11) → h'.2 b = h.2 b) := by
  have inner : Ca G mX3_restore [.ref 10] h (fun v h' => v = none ∧ h'.1 = h.1 ∧ h'.2 10 = some (.inr (3, cKp pd lg 0 0 by_ bl sv (-1) cl)) ∧ h'.2 11 = some (.inr (7, [x, y, .int 0])) ∧ ∀ b, (b ≠ 10 ∧ b ≠ 11) → h'.2 b = h.2 b) := by
    refine Ca.of rfl (Nat.le_of_ble_eq_true rfl) ?_
    first | refine go_aload_n (i := 0) (pc' := 1) dX3_restore_0 rfl rfl rfl ?_ | refine go_aloadX_n (i := 0) (pc' := 1) dX3_restore_0 rfl rfl rfl ?_ | refine go_aload_nN (i := 0) (pc' := 1) dX3_restore_0 rfl rfl rfl ?_
    refine go_getf (pc' := 4) dX3_restore_1 rfl gf_LandBase_Keeper_12 k10 rfl ?_
    first | refine go_aload_n (i := 0) (pc' := 5) dX3_restore_4 rfl rfl rfl ?_ | refine go_aloadX_n (i := 0) (pc' := 5) dX3_restore_4 rfl rfl rfl ?_ | refine go_aload_nN (i := 0) (pc' := 5) dX3_restore_4 rfl rfl rfl ?_
    refine go_getf (pc' := 8) dX3_restore_5 rfl gf_LandBase_Keeper_18 k10 rfl ?_
    refine go_invV (As := [_]) (pc' := 11) dX3_restore_8 rfl cf_X3_restore_65 rfl k11 rfl rfl (Nat.le_of_ble_eq_true rfl) (c_copy0 rfl k11 k14) (fun v1 h1 q1 => ?_)
    obtain ⟨rfl, hz, k11, f1⟩ := q1
    have k10 := (f1 _ (by omega)).trans k10
    have hfr : ∀ b, (b ≠ 10 ∧ b ≠ 11) → h1.2 b = h1.2 b := fun _ _ => rfl
    first | refine go_aload_n (i := 0) (pc' := 12) dX3_restore_11 rfl rfl rfl ?_ | refine go_aloadX_n (i := 0) (pc' := 12) dX3_restore_11 rfl rfl rfl ?_ | refine go_aload_nN (i := 0) (pc' := 12) dX3_restore_11 rfl rfl rfl ?_
    refine go_iconst (v := 0) (pc' := 13) dX3_restore_12 rfl (by decide) ?_
    refine go_putfK (pc' := 16) dX3_restore_13 rfl pf_LandBase_Keeper_41 (fun h => by cases h) k10 (Nat.le_of_ble_eq_true rfl) rfl rfl (fun hp2 zp2 cp2 fp2 => ?_)
    dsimp only [List.set] at cp2
    have hz := zp2.trans hz
    have k11 := (fp2 _ (by omega)).trans k11
    have hfr : ∀ b, (b ≠ 10 ∧ b ≠ 11) → hp2.2 b = h1.2 b := fun b hb => (fp2 b (by omega)).trans (hfr b hb)
    have k10 := cp2
    first | refine go_aload_n (i := 0) (pc' := 17) dX3_restore_16 rfl rfl rfl ?_ | refine go_aloadX_n (i := 0) (pc' := 17) dX3_restore_16 rfl rfl rfl ?_ | refine go_aload_nN (i := 0) (pc' := 17) dX3_restore_16 rfl rfl rfl ?_
    refine go_iconst (v := 0) (pc' := 18) dX3_restore_17 rfl (by decide) ?_
    refine go_putfK (pc' := 21) dX3_restore_18 rfl pf_LandBase_Keeper_75 (fun h => by cases h) k10 (Nat.le_of_ble_eq_true rfl) rfl rfl (fun hp3 zp3 cp3 fp3 => ?_)
    dsimp only [List.set] at cp3
    have hz := zp3.trans hz
    have k11 := (fp3 _ (by omega)).trans k11
    have hfr : ∀ b, (b ≠ 10 ∧ b ≠ 11) → hp3.2 b = h1.2 b := fun b hb => (fp3 b (by omega)).trans (hfr b hb)
    have k10 := cp3
    first | refine go_aload_n (i := 0) (pc' := 22) dX3_restore_21 rfl rfl rfl ?_ | refine go_aloadX_n (i := 0) (pc' := 22) dX3_restore_21 rfl rfl rfl ?_ | refine go_aload_nN (i := 0) (pc' := 22) dX3_restore_21 rfl rfl rfl ?_
    refine go_iconst (v := (-1)) (pc' := 23) dX3_restore_22 rfl (by decide) ?_
    refine go_putfK (pc' := 26) dX3_restore_23 rfl pf_LandBase_Keeper_27 (fun h => by cases h) k10 (Nat.le_of_ble_eq_true rfl) rfl rfl (fun hp4 zp4 cp4 fp4 => ?_)
    dsimp only [List.set] at cp4
    have hz := zp4.trans hz
    have k11 := (fp4 _ (by omega)).trans k11
    have hfr : ∀ b, (b ≠ 10 ∧ b ≠ 11) → hp4.2 b = h1.2 b := fun b hb => (fp4 b (by omega)).trans (hfr b hb)
    have k10 := cp4
    exact Go.ret (v := none) dX3_restore_26 rfl ⟨trivial,rfl,hz,k10,k11,(fun b hb => (hfr b hb).trans (f1 b hb.2))⟩
  refine Ca.of rfl (Nat.le_of_ble_eq_true rfl) ?_
  first | refine go_aload_n (i := 0) (pc' := 1) dX10_recover_0 rfl rfl rfl ?_ | refine go_aloadX_n (i := 0) (pc' := 1) dX10_recover_0 rfl rfl rfl ?_ | refine go_aload_nN (i := 0) (pc' := 1) dX10_recover_0 rfl rfl rfl ?_
  refine go_getf (pc' := 4) dX10_recover_1 rfl gf_LandBase_26 k0 hfs ?_
  refine go_invV (As := []) (pc' := 7) dX10_recover_4 rfl cf_X10_recover_142 rfl k10 rfl rfl (Nat.le_of_ble_eq_true rfl) inner (fun v1 h1 q1 => ?_)
  obtain ⟨rfl, hz, k10, k11, f1⟩ := q1
  have k0 := (f1 _ (by omega)).trans k0
  first | refine go_aload_n (i := 0) (pc' := 8) dX10_recover_7 rfl rfl rfl ?_ | refine go_aloadX_n (i := 0) (pc' := 8) dX10_recover_7 rfl rfl rfl ?_ | refine go_aload_nN (i := 0) (pc' := 8) dX10_recover_7 rfl rfl rfl ?_
  refine go_getf (pc' := 11) dX10_recover_8 rfl gf_LandBase_26 k0 hfs ?_
  refine go_getf (pc' := 14) dX10_recover_11 rfl gf_LandBase_145 k10 rfl ?_
  refine go_getf (pc' := 17) dX10_recover_14 rfl gf_LandBase_149 k11 rfl ?_
  exact Go.ret (v := some (.int _)) dX10_recover_17 ⟨_, rfl⟩ ⟨rfl,rfl,hz,f1⟩
set_option maxRecDepth 100000 in
theorem c_advance0 {G : xG} {h : xH} {a b d : Int32} (hz : h.1 = h.1) (k1 : h.2 1 = some (.inr (8, cTp 0 a b 0 d))) : Ca G mX9_advance [.ref 1] h (fun v h' => v = none ∧ h'.1 = h.1 ∧ h'.2 1 = some (.inr (8, cTp 0 0 0 0 d)) ∧ ∀ c, c ≠ 1 → h'.2 c = h.2 c) := by
  refine Ca.of rfl (Nat.le_of_ble_eq_true rfl) ?_
  first | refine go_aload_n (i := 0) (pc' := 1) dX9_advance_0 rfl rfl rfl ?_ | refine go_aloadX_n (i := 0) (pc' := 1) dX9_advance_0 rfl rfl rfl ?_ | refine go_aload_nN (i := 0) (pc' := 1) dX9_advance_0 rfl rfl rfl ?_
  refine go_getf (pc' := 4) dX9_advance_1 rfl gf_LandBase_Tape_19 k1 rfl ?_
  refine go_istore_n (i := 1) (pc' := 5) dX9_advance_4 rfl rfl (by decide) rfl ?_
  refine go_iload_n (i := 1) (pc' := 6) dX9_advance_5 rfl rfl rfl ?_
  first | refine go_aload_n (i := 0) (pc' := 7) dX9_advance_6 rfl rfl rfl ?_ | refine go_aloadX_n (i := 0) (pc' := 7) dX9_advance_6 rfl rfl rfl ?_ | refine go_aload_nN (i := 0) (pc' := 7) dX9_advance_6 rfl rfl rfl ?_
  refine go_getf (pc' := 10) dX9_advance_7 rfl gf_LandBase_Tape_15 k1 rfl ?_
  refine go_icmp_ge (pc' := 13) (tgt := 41) dX9_advance_10 (by decide) rfl (fun c1 => ?_) (fun c1 => ?_)
  · have hfr : ∀ b, (b ≠ 1) → h.2 b = h.2 b := fun _ _ => rfl
    first | refine go_aload_n (i := 0) (pc' := 42) dX9_advance_41 rfl rfl rfl ?_ | refine go_aloadX_n (i := 0) (pc' := 42) dX9_advance_41 rfl rfl rfl ?_ | refine go_aload_nN (i := 0) (pc' := 42) dX9_advance_41 rfl rfl rfl ?_
    refine go_iload_n (i := 1) (pc' := 43) dX9_advance_42 rfl rfl rfl ?_
    refine go_putfK (pc' := 46) dX9_advance_43 rfl pf_LandBase_Tape_25 (fun h => by cases h) k1 (Nat.le_of_ble_eq_true rfl) rfl rfl (fun hp1 zp1 cp1 fp1 => ?_)
    dsimp only [List.set] at cp1
    have hz := zp1.trans hz
    have hfr : ∀ b, (b ≠ 1) → hp1.2 b = h.2 b := fun b hb => (fp1 b (by omega)).trans (hfr b hb)
    have k1 := cp1
    first | refine go_aload_n (i := 0) (pc' := 47) dX9_advance_46 rfl rfl rfl ?_ | refine go_aloadX_n (i := 0) (pc' := 47) dX9_advance_46 rfl rfl rfl ?_ | refine go_aload_nN (i := 0) (pc' := 47) dX9_advance_46 rfl rfl rfl ?_
    refine go_iload_n (i := 1) (pc' := 48) dX9_advance_47 rfl rfl rfl ?_
    refine go_putfK (pc' := 51) dX9_advance_48 rfl pf_LandBase_Tape_19 (fun h => by cases h) k1 (Nat.le_of_ble_eq_true rfl) rfl rfl (fun hp2 zp2 cp2 fp2 => ?_)
    dsimp only [List.set] at cp2
    have hz := zp2.trans hz
    have hfr : ∀ b, (b ≠ 1) → hp2.2 b = h.2 b := fun b hb => (fp2 b (by omega)).trans (hfr b hb)
    have k1 := cp2
    refine go_iload_n (i := 1) (pc' := 52) dX9_advance_51 rfl rfl rfl ?_
    first | refine go_aload_n (i := 0) (pc' := 53) dX9_advance_52 rfl rfl rfl ?_ | refine go_aloadX_n (i := 0) (pc' := 53) dX9_advance_52 rfl rfl rfl ?_ | refine go_aload_nN (i := 0) (pc' := 53) dX9_advance_52 rfl rfl rfl ?_
    refine go_getf (pc' := 56) dX9_advance_53 rfl gf_LandBase_Tape_15 k1 rfl ?_
    refine go_icmp_lt (pc' := 59) (tgt := 67) dX9_advance_56 (by decide) rfl (fun c2 => ?_) (fun c2 => ?_)
    · exact absurd c2 (by decide)
    · first | refine go_aload_n (i := 0) (pc' := 60) dX9_advance_59 rfl rfl rfl ?_ | refine go_aloadX_n (i := 0) (pc' := 60) dX9_advance_59 rfl rfl rfl ?_ | refine go_aload_nN (i := 0) (pc' := 60) dX9_advance_59 rfl rfl rfl ?_
      refine go_iconst (v := 0) (pc' := 61) dX9_advance_60 rfl (by decide) ?_
      refine go_putfK (pc' := 64) dX9_advance_61 rfl pf_LandBase_Tape_28 (fun h => by cases h) k1 (Nat.le_of_ble_eq_true rfl) rfl rfl (fun hp3 zp3 cp3 fp3 => ?_)
      dsimp only [List.set] at cp3
      have hz := zp3.trans hz
      have hfr : ∀ b, (b ≠ 1) → hp3.2 b = h.2 b := fun b hb => (fp3 b (by omega)).trans (hfr b hb)
      have k1 := cp3
      refine go_goto (pc' := 0) (tgt := 206) dX9_advance_64 (by decide) ?_
      exact Go.ret (v := none) dX9_advance_206 rfl ⟨trivial,rfl,hz,k1,hfr⟩
  · exact absurd (by decide) c1
set_option maxRecDepth 100000 in
theorem c_run0 {G : xG} {h : xH} {ic off wa pd lg op by_ bl sv ck cl a b c d : Int32} (k0 : h.2 0 = some (.inr (9, cO ic off wa))) (k10 : h.2 10 = some (.inr (3, cKp pd lg op 0 by_ bl sv ck cl))) (k1 : h.2 1 = some (.inr (8, cTp 0 a b c d))) : Ca G mX10_run [.ref 0] h (fun v h' => v = some (.int 0) ∧ h'.1 = h.1 ∧ (∃ fs, h'.2 0 = some (.inr (9, fs))) ∧ ∀ b, (b ≠ 0 ∧ b ≠ 1) → h'.2 b = h.2 b) := by
  refine Ca.of rfl (Nat.le_of_ble_eq_true rfl) ?_
  have hz : h.1 = h.1 := rfl
  first | refine go_aload_n (i := 0) (pc' := 1) dX10_run_0 rfl rfl rfl ?_ | refine go_aloadX_n (i := 0) (pc' := 1) dX10_run_0 rfl rfl rfl ?_ | refine go_aload_nN (i := 0) (pc' := 1) dX10_run_0 rfl rfl rfl ?_
  refine go_getf (pc' := 4) dX10_run_1 rfl gf_LandBase_26 k0 rfl ?_
  refine go_getf (pc' := 7) dX10_run_4 rfl gf_LandBase_80 k10 rfl ?_
  refine go_if_eq (pc' := 10) (tgt := 12) dX10_run_7 (by decide) rfl (fun c1 => ?_) (fun c1 => ?_)
  · have hfr : ∀ b, (b ≠ 0 ∧ b ≠ 1) → h.2 b = h.2 b := fun _ _ => rfl
    first | refine go_aload_n (i := 0) (pc' := 13) dX10_run_12 rfl rfl rfl ?_ | refine go_aloadX_n (i := 0) (pc' := 13) dX10_run_12 rfl rfl rfl ?_ | refine go_aload_nN (i := 0) (pc' := 13) dX10_run_12 rfl rfl rfl ?_
    refine go_iconst (v := 0) (pc' := 14) dX10_run_13 rfl (by decide) ?_
    refine go_putfK (pc' := 17) dX10_run_14 rfl pf_LandBase_63 (fun h => by cases h) k0 (Nat.le_of_ble_eq_true rfl) rfl rfl (fun hp1 zp1 cp1 fp1 => ?_)
    dsimp only [List.set] at cp1
    have hz := zp1.trans hz
    have k1 := (fp1 _ (by omega)).trans k1
    have k10 := (fp1 _ (by omega)).trans k10
    have hfr : ∀ b, (b ≠ 0 ∧ b ≠ 1) → hp1.2 b = h.2 b := fun b hb => (fp1 b (by omega)).trans (hfr b hb)
    have k0 := cp1
    first | refine go_aload_n (i := 0) (pc' := 18) dX10_run_17 rfl rfl rfl ?_ | refine go_aloadX_n (i := 0) (pc' := 18) dX10_run_17 rfl rfl rfl ?_ | refine go_aload_nN (i := 0) (pc' := 18) dX10_run_17 rfl rfl rfl ?_
    refine go_iconst (v := (-1)) (pc' := 19) dX10_run_18 rfl (by decide) ?_
    refine go_putfK (pc' := 22) dX10_run_19 rfl pf_LandBase_70 (fun h => by cases h) k0 (Nat.le_of_ble_eq_true rfl) rfl rfl (fun hp2 zp2 cp2 fp2 => ?_)
    dsimp only [List.set] at cp2
    have hz := zp2.trans hz
    have k1 := (fp2 _ (by omega)).trans k1
    have k10 := (fp2 _ (by omega)).trans k10
    have hfr : ∀ b, (b ≠ 0 ∧ b ≠ 1) → hp2.2 b = h.2 b := fun b hb => (fp2 b (by omega)).trans (hfr b hb)
    have k0 := cp2
    refine go_iconst (v := 0) (pc' := 23) dX10_run_22 rfl (by decide) ?_
    refine go_istore_n (i := 1) (pc' := 24) dX10_run_23 rfl rfl (by decide) rfl ?_
    first | refine go_aload_n (i := 0) (pc' := 25) dX10_run_24 rfl rfl rfl ?_ | refine go_aloadX_n (i := 0) (pc' := 25) dX10_run_24 rfl rfl rfl ?_ | refine go_aload_nN (i := 0) (pc' := 25) dX10_run_24 rfl rfl rfl ?_
    refine go_getf (pc' := 28) dX10_run_25 rfl gf_LandBase_10 k0 rfl ?_
    have rw0 : Ca G mX9_rewind [.ref 1] hp2 (fun v h' => v = none ∧ h'.1 = hp2.1 ∧ h'.2 1 = some (.inr (8, cTp 0 0 0 0 d)) ∧ ∀ c, c ≠ 1 → h'.2 c = hp2.2 c) := by
      refine Ca.of rfl (Nat.le_of_ble_eq_true rfl) ?_
      have hz : hp2.1 = hp2.1 := rfl
      have hfr : ∀ b, (b ≠ 1) → hp2.2 b = hp2.2 b := fun _ _ => rfl
      first | refine go_aload_n (i := 0) (pc' := 1) dX9_rewind_0 rfl rfl rfl ?_ | refine go_aloadX_n (i := 0) (pc' := 1) dX9_rewind_0 rfl rfl rfl ?_ | refine go_aload_nN (i := 0) (pc' := 1) dX9_rewind_0 rfl rfl rfl ?_
      refine go_iconst (v := 0) (pc' := 2) dX9_rewind_1 rfl (by decide) ?_
      refine go_putfK (pc' := 5) dX9_rewind_2 rfl pf_LandBase_Tape_19 (fun h => by cases h) k1 (Nat.le_of_ble_eq_true rfl) rfl rfl (fun hp11 zp11 cp11 fp11 => ?_)
      dsimp only [List.set] at cp11
      have hz := zp11.trans hz
      have hfr : ∀ b, (b ≠ 1) → hp11.2 b = hp2.2 b := fun b hb => (fp11 b (by omega)).trans (hfr b hb)
      have k1 := cp11
      first | refine go_aload_n (i := 0) (pc' := 6) dX9_rewind_5 rfl rfl rfl ?_ | refine go_aloadX_n (i := 0) (pc' := 6) dX9_rewind_5 rfl rfl rfl ?_ | refine go_aload_nN (i := 0) (pc' := 6) dX9_rewind_5 rfl rfl rfl ?_
      refine go_invV (As := []) (pc' := 9) dX9_rewind_6 rfl cf_X9_rewind_22 rfl k1 rfl rfl (Nat.le_of_ble_eq_true rfl) (c_advance0 rfl k1) (fun v5 h5 q5 => ?_)
      obtain ⟨rfl, z5, k1, f5⟩ := q5
      exact Go.ret (v := none) dX9_rewind_9 rfl ⟨trivial,rfl,(z5.trans hz),k1,(fun b hb => (f5 b hb).trans (hfr b hb))⟩
    refine go_invV (As := []) (pc' := 31) dX10_run_28 rfl cf_X10_run_84 rfl k1 rfl rfl (Nat.le_of_ble_eq_true rfl) rw0 (fun v6 h6 q6 => ?_)
    obtain ⟨rfl, z6, k1, f6⟩ := q6
    have k0 := (f6 _ (by omega)).trans k0
    refine go_iload_n (i := 1) (pc' := 32) dX10_run_31 rfl rfl rfl ?_
    refine go_sipush (v := 4000) (pc' := 35) dX10_run_32 rfl (by decide) ?_
    refine go_icmp_ge (pc' := 38) (tgt := 254) dX10_run_35 (by decide) rfl (fun c2 => ?_) (fun c2 => ?_)
    · exact absurd c2 (by decide)
    · first | refine go_aload_n (i := 0) (pc' := 39) dX10_run_38 rfl rfl rfl ?_ | refine go_aloadX_n (i := 0) (pc' := 39) dX10_run_38 rfl rfl rfl ?_ | refine go_aload_nN (i := 0) (pc' := 39) dX10_run_38 rfl rfl rfl ?_
      refine go_getf (pc' := 42) dX10_run_39 rfl gf_LandBase_10 k0 rfl ?_
      refine go_getf (pc' := 45) dX10_run_42 rfl gf_LandBase_87 k1 rfl ?_
      refine go_if_eq (pc' := 48) (tgt := 254) dX10_run_45 (by decide) rfl (fun c3 => ?_) (fun c3 => ?_)
      · first | refine go_aload_n (i := 0) (pc' := 255) dX10_run_254 rfl rfl rfl ?_ | refine go_aloadX_n (i := 0) (pc' := 255) dX10_run_254 rfl rfl rfl ?_ | refine go_aload_nN (i := 0) (pc' := 255) dX10_run_254 rfl rfl rfl ?_
        refine go_getf (pc' := 258) dX10_run_255 rfl gf_LandBase_10 k0 rfl ?_
        have cl0 : Ca G mX9_clear [.ref 1] h6 (fun v h' => v = none ∧ h'.1 = h6.1 ∧ ∀ c, c ≠ 1 → h'.2 c = h6.2 c) := by
          refine Ca.of rfl (Nat.le_of_ble_eq_true rfl) ?_
          have hz : h6.1 = h6.1 := rfl
          have hfr : ∀ b, (b ≠ 1) → h6.2 b = h6.2 b := fun _ _ => rfl
          first | refine go_aload_n (i := 0) (pc' := 1) dX9_clear_0 rfl rfl rfl ?_ | refine go_aloadX_n (i := 0) (pc' := 1) dX9_clear_0 rfl rfl rfl ?_ | refine go_aload_nN (i := 0) (pc' := 1) dX9_clear_0 rfl rfl rfl ?_
          refine go_iconst (v := 0) (pc' := 2) dX9_clear_1 rfl (by decide) ?_
          refine go_putfK (pc' := 5) dX9_clear_2 rfl pf_LandBase_Tape_15 (fun h => by cases h) k1 (Nat.le_of_ble_eq_true rfl) rfl rfl (fun hp21 zp21 cp21 fp21 => ?_)
          dsimp only [List.set] at cp21
          have hz := zp21.trans hz
          have hfr : ∀ b, (b ≠ 1) → hp21.2 b = h6.2 b := fun b hb => (fp21 b (by omega)).trans (hfr b hb)
          have k1 := cp21
          exact Go.ret (v := none) dX9_clear_5 rfl ⟨trivial,rfl,hz,hfr⟩
        refine go_invV (As := []) (pc' := 261) dX10_run_258 rfl cf_X10_run_133 rfl k1 rfl rfl (Nat.le_of_ble_eq_true rfl) cl0 (fun v7 h7 q7 => ?_)
        obtain ⟨rfl, z7, f7⟩ := q7
        refine go_iload_n (i := 1) (pc' := 262) dX10_run_261 rfl rfl rfl ?_
        exact Go.ret (v := some (.int _)) dX10_run_262 ⟨_, rfl⟩ ⟨rfl,rfl,(z7.trans (z6.trans hz)),⟨_,((f7 0 (by omega)).trans k0)⟩,(fun b hb => (f7 b hb.2).trans ((f6 b hb.2).trans (hfr b hb)))⟩
      · exact absurd rfl c3
  · exact absurd rfl c1
/-! the reference's -/
set_option maxRecDepth 100000 in
theorem r_find0 {G : xG} {h : xH} {a : Nat} {x : Value} {id : Int32} (hh : h.2 a = some (.inr (12, [x, .int 0]))) : Ca G mX13_find [.ref a, .int id] h (fun v h' => v = some (.int (-1)) ∧ h' = h) := by
  refine Ca.of rfl (Nat.le_of_ble_eq_true rfl) ?_
  refine go_iconst (v := 0) (pc' := 1) dX13_find_0 rfl (by decide) ?_
  refine go_istore_n (i := 2) (pc' := 2) dX13_find_1 rfl rfl (by decide) rfl ?_
  refine go_iload_n (i := 2) (pc' := 3) dX13_find_2 rfl rfl rfl ?_
  first | refine go_aload_n (i := 0) (pc' := 4) dX13_find_3 rfl rfl rfl ?_ | refine go_aloadX_n (i := 0) (pc' := 4) dX13_find_3 rfl rfl rfl ?_ | refine go_aload_nN (i := 0) (pc' := 4) dX13_find_3 rfl rfl rfl ?_
  refine go_getf (pc' := 7) dX13_find_4 rfl gf_LandBaseModel_State_18 hh rfl ?_
  refine go_icmp_ge (pc' := 10) (tgt := 31) dX13_find_7 (by decide) rfl (fun c1 => ?_) (fun c1 => ?_)
  · refine go_iconst (v := (-1)) (pc' := 32) dX13_find_31 rfl (by decide) ?_
    exact Go.ret (v := some (.int _)) dX13_find_32 ⟨_, rfl⟩ ⟨rfl,rfl,rfl⟩
  · exact absurd (by decide) c1
set_option maxRecDepth 100000 in
theorem r_standing0 {G : xG} {h : xH} {F : Nat → Value} {x : Value} {id : Int32} (hM : h.2 233 = some (.inr (13, mkF F 58))) (hd : F 33 = .int 0) (hl : F 30 = .ref 259) (hs : h.2 259 = some (.inr (12, [x, .int 0]))) : Ca G mX14_standing [.ref 233, .int id] h (fun v h' => v = some (.int (-1)) ∧ h' = h) := by
  refine Ca.of rfl (Nat.le_of_ble_eq_true rfl) ?_
  first | refine go_aload_n (i := 0) (pc' := 1) dX14_standing_0 rfl rfl rfl ?_ | refine go_aloadX_n (i := 0) (pc' := 1) dX14_standing_0 rfl rfl rfl ?_ | refine go_aload_nN (i := 0) (pc' := 1) dX14_standing_0 rfl rfl rfl ?_
  refine go_getfF (pc' := 4) dX14_standing_1 rfl gf_LandBaseModel_318 hM (by decide) hd ?_
  refine go_if_eq (pc' := 7) (tgt := 11) dX14_standing_4 (by decide) rfl (fun c1 => ?_) (fun c1 => ?_)
  · first | refine go_aload_n (i := 0) (pc' := 12) dX14_standing_11 rfl rfl rfl ?_ | refine go_aloadX_n (i := 0) (pc' := 12) dX14_standing_11 rfl rfl rfl ?_ | refine go_aload_nN (i := 0) (pc' := 12) dX14_standing_11 rfl rfl rfl ?_
    refine go_getfF (pc' := 15) dX14_standing_12 rfl gf_LandBaseModel_351 hM (by decide) hl ?_
    refine go_iload_n (i := 1) (pc' := 16) dX14_standing_15 rfl rfl rfl ?_
    refine go_invV (As := [_]) (pc' := 19) dX14_standing_16 rfl cf_X14_standing_573 rfl hs rfl rfl (Nat.le_of_ble_eq_true rfl) (r_find0 hs) (fun v1 h1 q1 => ?_)
    obtain ⟨rfl, rfl⟩ := q1
    exact Go.ret (v := some (.int _)) dX14_standing_19 ⟨_, rfl⟩ ⟨rfl,rfl,rfl⟩
  · exact absurd rfl c1
set_option maxRecDepth 100000 in
theorem r_kindOf0 {G : xG} {h : xH} {id : Int32} {fs : List Value} (hM : h.2 233 = some (.inr (13, fs))) (hS : Ca G mX14_standing [.ref 233, .int id] h (fun v h' => v = some (.int (-1)) ∧ h' = h)) : Ca G mX14_kindOf [.ref 233, .int id] h (fun v h' => v = some (.int (-1)) ∧ h' = h) := by
  refine Ca.of rfl (Nat.le_of_ble_eq_true rfl) ?_
  first | refine go_aload_n (i := 0) (pc' := 1) dX14_kindOf_0 rfl rfl rfl ?_ | refine go_aloadX_n (i := 0) (pc' := 1) dX14_kindOf_0 rfl rfl rfl ?_ | refine go_aload_nN (i := 0) (pc' := 1) dX14_kindOf_0 rfl rfl rfl ?_
  refine go_iload_n (i := 1) (pc' := 2) dX14_kindOf_1 rfl rfl rfl ?_
  refine go_invV (As := [_]) (pc' := 5) dX14_kindOf_2 rfl cf_X14_kindOf_650 rfl hM rfl rfl (Nat.le_of_ble_eq_true rfl) hS (fun v1 h1 q1 => ?_)
  obtain ⟨rfl, rfl⟩ := q1
  refine go_istore_n (i := 2) (pc' := 6) dX14_kindOf_5 rfl rfl (by decide) rfl ?_
  refine go_iload_n (i := 2) (pc' := 7) dX14_kindOf_6 rfl rfl rfl ?_
  refine go_if_ge (pc' := 10) (tgt := 14) dX14_kindOf_7 (by decide) rfl (fun c1 => ?_) (fun c1 => ?_)
  · exact absurd c1 (by decide)
  · refine go_iconst (v := (-1)) (pc' := 11) dX14_kindOf_10 rfl (by decide) ?_
    refine go_goto (pc' := 0) (tgt := 26) dX14_kindOf_11 (by decide) ?_
    exact Go.ret (v := some (.int _)) dX14_kindOf_26 ⟨_, rfl⟩ ⟨rfl,rfl,rfl⟩
set_option maxRecDepth 100000 in
theorem r_places0 {G : xG} {h : xH} {id : Int32} {fs : List Value} (hM : h.2 233 = some (.inr (13, fs))) (hS : Ca G mX14_standing [.ref 233, .int id] h (fun v h' => v = some (.int (-1)) ∧ h' = h)) : Ca G mX14_places [.ref 233, .int id] h (fun v h' => v = some (.int (-1)) ∧ h' = h) := by
  refine Ca.of rfl (Nat.le_of_ble_eq_true rfl) ?_
  first | refine go_aload_n (i := 0) (pc' := 1) dX14_places_0 rfl rfl rfl ?_ | refine go_aloadX_n (i := 0) (pc' := 1) dX14_places_0 rfl rfl rfl ?_ | refine go_aload_nN (i := 0) (pc' := 1) dX14_places_0 rfl rfl rfl ?_
  refine go_iload_n (i := 1) (pc' := 2) dX14_places_1 rfl rfl rfl ?_
  refine go_invV (As := [_]) (pc' := 5) dX14_places_2 rfl cf_X14_places_650 rfl hM rfl rfl (Nat.le_of_ble_eq_true rfl) hS (fun v1 h1 q1 => ?_)
  obtain ⟨rfl, rfl⟩ := q1
  refine go_istore_n (i := 2) (pc' := 6) dX14_places_5 rfl rfl (by decide) rfl ?_
  refine go_iload_n (i := 2) (pc' := 7) dX14_places_6 rfl rfl rfl ?_
  refine go_if_ge (pc' := 10) (tgt := 14) dX14_places_7 (by decide) rfl (fun c1 => ?_) (fun c1 => ?_)
  · exact absurd c1 (by decide)
  · refine go_iconst (v := (-1)) (pc' := 11) dX14_places_10 rfl (by decide) ?_
    refine go_goto (pc' := 0) (tgt := 26) dX14_places_11 (by decide) ?_
    exact Go.ret (v := some (.int _)) dX14_places_26 ⟨_, rfl⟩ ⟨rfl,rfl,rfl⟩
set_option maxRecDepth 100000 in
theorem r_rings0 {G : xG} {h : xH} {id : Int32} {fs : List Value} (hM : h.2 233 = some (.inr (13, fs))) (hS : Ca G mX14_standing [.ref 233, .int id] h (fun v h' => v = some (.int (-1)) ∧ h' = h)) : Ca G mX14_rings [.ref 233, .int id] h (fun v h' => v = some (.int (-1)) ∧ h' = h) := by
  refine Ca.of rfl (Nat.le_of_ble_eq_true rfl) ?_
  first | refine go_aload_n (i := 0) (pc' := 1) dX14_rings_0 rfl rfl rfl ?_ | refine go_aloadX_n (i := 0) (pc' := 1) dX14_rings_0 rfl rfl rfl ?_ | refine go_aload_nN (i := 0) (pc' := 1) dX14_rings_0 rfl rfl rfl ?_
  refine go_iload_n (i := 1) (pc' := 2) dX14_rings_1 rfl rfl rfl ?_
  refine go_invV (As := [_]) (pc' := 5) dX14_rings_2 rfl cf_X14_rings_650 rfl hM rfl rfl (Nat.le_of_ble_eq_true rfl) hS (fun v1 h1 q1 => ?_)
  obtain ⟨rfl, rfl⟩ := q1
  refine go_istore_n (i := 2) (pc' := 6) dX14_rings_5 rfl rfl (by decide) rfl ?_
  refine go_iload_n (i := 2) (pc' := 7) dX14_rings_6 rfl rfl rfl ?_
  refine go_if_ge (pc' := 10) (tgt := 14) dX14_rings_7 (by decide) rfl (fun c1 => ?_) (fun c1 => ?_)
  · exact absurd c1 (by decide)
  · refine go_iconst (v := (-1)) (pc' := 11) dX14_rings_10 rfl (by decide) ?_
    refine go_goto (pc' := 0) (tgt := 26) dX14_rings_11 (by decide) ?_
    exact Go.ret (v := some (.int _)) dX14_rings_26 ⟨_, rfl⟩ ⟨rfl,rfl,rfl⟩
set_option maxRecDepth 100000 in
theorem r_at0 {G : xG} {h : xH} {i j p : Int32} {fs : List Value} (hM : h.2 233 = some (.inr (13, fs))) (hS : Ca G mX14_standing [.ref 233, .int i] h (fun v h' => v = some (.int (-1)) ∧ h' = h)) : Ca G mX14_at [.ref 233, .int i, .int j, .int p] h (fun v h' => v = some (.int 0) ∧ h' = h) := by
  refine Ca.of rfl (Nat.le_of_ble_eq_true rfl) ?_
  first | refine go_aload_n (i := 0) (pc' := 1) dX14_at_0 rfl rfl rfl ?_ | refine go_aloadX_n (i := 0) (pc' := 1) dX14_at_0 rfl rfl rfl ?_ | refine go_aload_nN (i := 0) (pc' := 1) dX14_at_0 rfl rfl rfl ?_
  refine go_iload_n (i := 1) (pc' := 2) dX14_at_1 rfl rfl rfl ?_
  refine go_invV (As := [_]) (pc' := 5) dX14_at_2 rfl cf_X14_at_650 rfl hM rfl rfl (Nat.le_of_ble_eq_true rfl) hS (fun v1 h1 q1 => ?_)
  obtain ⟨rfl, rfl⟩ := q1
  refine go_istore (pc' := 7) dX14_at_5 rfl (by decide) rfl ?_
  refine go_iload (pc' := 9) dX14_at_7 rfl rfl ?_
  refine go_if_lt (pc' := 12) (tgt := 42) dX14_at_9 (by decide) rfl (fun c1 => ?_) (fun c1 => ?_)
  · refine go_iconst (v := 0) (pc' := 43) dX14_at_42 rfl (by decide) ?_
    exact Go.ret (v := some (.int _)) dX14_at_43 ⟨_, rfl⟩ ⟨rfl,rfl,rfl⟩
  · exact absurd (by decide) c1
set_option maxRecDepth 100000 in
theorem r_relate0 {G : xG} {h : xH} {r a b : Int32} {fs : List Value} (hM : h.2 233 = some (.inr (13, fs))) (hS : ∀ i, Ca G mX14_standing [.ref 233, .int i] h (fun v h' => v = some (.int (-1)) ∧ h' = h)) : Ca G mX14_relate [.ref 233, .int r, .int a, .int b] h (fun v h' => v = some (.int (-1)) ∧ h' = h) := by
  refine Ca.of rfl (Nat.le_of_ble_eq_true rfl) ?_
  first | refine go_aload_n (i := 0) (pc' := 1) dX14_relate_0 rfl rfl rfl ?_ | refine go_aloadX_n (i := 0) (pc' := 1) dX14_relate_0 rfl rfl rfl ?_ | refine go_aload_nN (i := 0) (pc' := 1) dX14_relate_0 rfl rfl rfl ?_
  refine go_iload_n (i := 2) (pc' := 2) dX14_relate_1 rfl rfl rfl ?_
  refine go_invV (As := [_]) (pc' := 5) dX14_relate_2 rfl cf_X14_relate_650 rfl hM rfl rfl (Nat.le_of_ble_eq_true rfl) (hS _) (fun v1 h1 q1 => ?_)
  obtain ⟨rfl, rfl⟩ := q1
  refine go_istore (pc' := 7) dX14_relate_5 rfl (by decide) rfl ?_
  first | refine go_aload_n (i := 0) (pc' := 8) dX14_relate_7 rfl rfl rfl ?_ | refine go_aloadX_n (i := 0) (pc' := 8) dX14_relate_7 rfl rfl rfl ?_ | refine go_aload_nN (i := 0) (pc' := 8) dX14_relate_7 rfl rfl rfl ?_
  refine go_iload_n (i := 3) (pc' := 9) dX14_relate_8 rfl rfl rfl ?_
  refine go_invV (As := [_]) (pc' := 12) dX14_relate_9 rfl cf_X14_relate_650 rfl hM rfl rfl (Nat.le_of_ble_eq_true rfl) (hS _) (fun v1 h2 q1 => ?_)
  obtain ⟨rfl, rfl⟩ := q1
  refine go_istore (pc' := 14) dX14_relate_12 rfl (by decide) rfl ?_
  refine go_iload (pc' := 16) dX14_relate_14 rfl rfl ?_
  refine go_if_lt (pc' := 19) (tgt := 33) dX14_relate_16 (by decide) rfl (fun c1 => ?_) (fun c1 => ?_)
  · refine go_iconst (v := (-1)) (pc' := 34) dX14_relate_33 rfl (by decide) ?_
    exact Go.ret (v := some (.int _)) dX14_relate_34 ⟨_, rfl⟩ ⟨rfl,rfl,rfl⟩
  · exact absurd (by decide) c1
set_option maxRecDepth 100000 in
theorem r_nearer0 {G : xG} {h : xH} {a b x y : Int32} {fs : List Value} (hM : h.2 233 = some (.inr (13, fs))) (hS : ∀ i, Ca G mX14_standing [.ref 233, .int i] h (fun v h' => v = some (.int (-1)) ∧ h' = h)) : Ca G mX14_nearer [.ref 233, .int a, .int b, .int x, .int y] h (fun v h' => v = some (.int (-2)) ∧ h' = h) := by
  refine Ca.of rfl (Nat.le_of_ble_eq_true rfl) ?_
  first | refine go_aload_n (i := 0) (pc' := 1) dX14_nearer_0 rfl rfl rfl ?_ | refine go_aloadX_n (i := 0) (pc' := 1) dX14_nearer_0 rfl rfl rfl ?_ | refine go_aload_nN (i := 0) (pc' := 1) dX14_nearer_0 rfl rfl rfl ?_
  refine go_iload_n (i := 1) (pc' := 2) dX14_nearer_1 rfl rfl rfl ?_
  refine go_invV (As := [_]) (pc' := 5) dX14_nearer_2 rfl cf_X14_nearer_650 rfl hM rfl rfl (Nat.le_of_ble_eq_true rfl) (hS _) (fun v1 h1 q1 => ?_)
  obtain ⟨rfl, rfl⟩ := q1
  refine go_istore (pc' := 7) dX14_nearer_5 rfl (by decide) rfl ?_
  first | refine go_aload_n (i := 0) (pc' := 8) dX14_nearer_7 rfl rfl rfl ?_ | refine go_aloadX_n (i := 0) (pc' := 8) dX14_nearer_7 rfl rfl rfl ?_ | refine go_aload_nN (i := 0) (pc' := 8) dX14_nearer_7 rfl rfl rfl ?_
  refine go_iload_n (i := 2) (pc' := 9) dX14_nearer_8 rfl rfl rfl ?_
  refine go_invV (As := [_]) (pc' := 12) dX14_nearer_9 rfl cf_X14_nearer_650 rfl hM rfl rfl (Nat.le_of_ble_eq_true rfl) (hS _) (fun v1 h2 q1 => ?_)
  obtain ⟨rfl, rfl⟩ := q1
  refine go_istore (pc' := 14) dX14_nearer_12 rfl (by decide) rfl ?_
  refine go_iload (pc' := 16) dX14_nearer_14 rfl rfl ?_
  refine go_if_lt (pc' := 19) (tgt := 41) dX14_nearer_16 (by decide) rfl (fun c1 => ?_) (fun c1 => ?_)
  · refine go_bipush (v := (-2)) (pc' := 43) dX14_nearer_41 rfl (by decide) ?_
    exact Go.ret (v := some (.int _)) dX14_nearer_43 ⟨_, rfl⟩ ⟨rfl,rfl,rfl⟩
  · exact absurd (by decide) c1
set_option maxRecDepth 100000 in
theorem r_idAt0 {G : xG} {h : xH} {F : Nat → Value} {x : Value} {i : Int32} (hM : h.2 233 = some (.inr (13, mkF F 58))) (hd : F 33 = .int 0) (hl : F 30 = .ref 259) (hs : h.2 259 = some (.inr (12, [x, .int 0]))) : Ca G mX14_idAt [.ref 233, .int i] h (fun v h' => v = some (.int (-1)) ∧ h' = h) := by
  refine Ca.of rfl (Nat.le_of_ble_eq_true rfl) ?_
  first | refine go_aload_n (i := 0) (pc' := 1) dX14_idAt_0 rfl rfl rfl ?_ | refine go_aloadX_n (i := 0) (pc' := 1) dX14_idAt_0 rfl rfl rfl ?_ | refine go_aload_nN (i := 0) (pc' := 1) dX14_idAt_0 rfl rfl rfl ?_
  refine go_getfF (pc' := 4) dX14_idAt_1 rfl gf_LandBaseModel_318 hM (by decide) hd ?_
  refine go_if_ne (pc' := 7) (tgt := 22) dX14_idAt_4 (by decide) rfl (fun c1 => ?_) (fun c1 => ?_)
  · exact absurd rfl c1
  · refine go_iload_n (i := 1) (pc' := 8) dX14_idAt_7 rfl rfl rfl ?_
    refine go_if_lt (pc' := 11) (tgt := 22) dX14_idAt_8 (by decide) rfl (fun c2 => ?_) (fun c2 => ?_)
    · refine go_iconst (v := (-1)) (pc' := 23) dX14_idAt_22 rfl (by decide) ?_
      refine go_goto (pc' := 0) (tgt := 38) dX14_idAt_23 (by decide) ?_
      exact Go.ret (v := some (.int _)) dX14_idAt_38 ⟨_, rfl⟩ ⟨rfl,rfl,rfl⟩
    · refine go_iload_n (i := 1) (pc' := 12) dX14_idAt_11 rfl rfl rfl ?_
      first | refine go_aload_n (i := 0) (pc' := 13) dX14_idAt_12 rfl rfl rfl ?_ | refine go_aloadX_n (i := 0) (pc' := 13) dX14_idAt_12 rfl rfl rfl ?_ | refine go_aload_nN (i := 0) (pc' := 13) dX14_idAt_12 rfl rfl rfl ?_
      refine go_getfF (pc' := 16) dX14_idAt_13 rfl gf_LandBaseModel_351 hM (by decide) hl ?_
      refine go_getf (pc' := 19) dX14_idAt_16 rfl gf_LandBaseModel_581 hs rfl ?_
      refine go_icmp_lt (pc' := 22) (tgt := 26) dX14_idAt_19 (by decide) rfl (fun c3 => ?_) (fun c3 => ?_)
      · exact absurd c3 c2
      · refine go_iconst (v := (-1)) (pc' := 23) dX14_idAt_22 rfl (by decide) ?_
        refine go_goto (pc' := 0) (tgt := 38) dX14_idAt_23 (by decide) ?_
        exact Go.ret (v := some (.int _)) dX14_idAt_38 ⟨_, rfl⟩ ⟨rfl,rfl,rfl⟩
set_option maxRecDepth 100000 in
theorem r_take0 {G : xG} {h : xH} {a b : Nat} {x x2 : Value} (hz : h.1 = h.1) (hh : h.2 a = some (.inr (12, [x, .int 0]))) (ho : h.2 b = some (.inr (12, [x2, .int 0]))) : Ca G mX13_take [.ref a, .ref b] h (fun v h' => v = none ∧ h'.1 = h.1 ∧ h'.2 a = some (.inr (12, [x, .int 0])) ∧ ∀ c, c ≠ a → h'.2 c = h.2 c) := by
  refine Ca.of rfl (Nat.le_of_ble_eq_true rfl) ?_
  have hfr : ∀ b, (b ≠ a) → h.2 b = h.2 b := fun _ _ => rfl
  first | refine go_aload_n (i := 0) (pc' := 1) dX13_take_0 rfl rfl rfl ?_ | refine go_aloadX_n (i := 0) (pc' := 1) dX13_take_0 rfl rfl rfl ?_ | refine go_aload_nN (i := 0) (pc' := 1) dX13_take_0 rfl rfl rfl ?_
  first | refine go_aload_n (i := 1) (pc' := 2) dX13_take_1 rfl rfl rfl ?_ | refine go_aloadX_n (i := 1) (pc' := 2) dX13_take_1 rfl rfl rfl ?_ | refine go_aload_nN (i := 1) (pc' := 2) dX13_take_1 rfl rfl rfl ?_
  refine go_getf (pc' := 5) dX13_take_2 rfl gf_LandBaseModel_State_18 ho rfl ?_
  refine go_putfK (pc' := 8) dX13_take_5 rfl pf_LandBaseModel_State_18 (fun h => by cases h) hh (Nat.le_of_ble_eq_true rfl) rfl rfl (fun hp1 zp1 cp1 fp1 => ?_)
  dsimp only [List.set] at cp1
  have hz := zp1.trans hz
  have hfr : ∀ b, (b ≠ a) → hp1.2 b = h.2 b := fun b hb => (fp1 b (by omega)).trans (hfr b hb)
  have hh := cp1
  refine go_iconst (v := 0) (pc' := 9) dX13_take_8 rfl (by decide) ?_
  refine go_istore_n (i := 2) (pc' := 10) dX13_take_9 rfl rfl (by decide) rfl ?_
  refine go_iload_n (i := 2) (pc' := 11) dX13_take_10 rfl rfl rfl ?_
  first | refine go_aload_n (i := 0) (pc' := 12) dX13_take_11 rfl rfl rfl ?_ | refine go_aloadX_n (i := 0) (pc' := 12) dX13_take_11 rfl rfl rfl ?_ | refine go_aload_nN (i := 0) (pc' := 12) dX13_take_11 rfl rfl rfl ?_
  refine go_getf (pc' := 15) dX13_take_12 rfl gf_LandBaseModel_State_18 hh rfl ?_
  refine go_icmp_ge (pc' := 18) (tgt := 39) dX13_take_15 (by decide) rfl (fun c2 => ?_) (fun c2 => ?_)
  · exact Go.ret (v := none) dX13_take_39 rfl ⟨trivial,rfl,hz,hh,hfr⟩
  · exact absurd (by decide) c2
set_option maxRecDepth 100000 in
theorem r_recover0 {G : xG} {h : xH} {F : Nat → Value} {x x2 : Value} (hM : h.2 233 = some (.inr (13, mkF F 58))) (hl : F 30 = .ref 259) (hc : F 31 = .ref 1061) (hs : h.2 259 = some (.inr (12, [x, .int 0]))) (ho : h.2 1061 = some (.inr (12, [x2, .int 0]))) : Ca G mX14_recover [.ref 233] h (fun v h' => v = some (.int 0) ∧ h'.1 = h.1 ∧ ∀ b, (b ≠ 233 ∧ b ≠ 259) → h'.2 b = h.2 b) := by
  refine Ca.of rfl (Nat.le_of_ble_eq_true rfl) ?_
  first | refine go_aload_n (i := 0) (pc' := 1) dX14_recover_0 rfl rfl rfl ?_ | refine go_aloadX_n (i := 0) (pc' := 1) dX14_recover_0 rfl rfl rfl ?_ | refine go_aload_nN (i := 0) (pc' := 1) dX14_recover_0 rfl rfl rfl ?_
  refine go_getfF (pc' := 4) dX14_recover_1 rfl gf_LandBaseModel_351 hM (by decide) hl ?_
  first | refine go_aload_n (i := 0) (pc' := 5) dX14_recover_4 rfl rfl rfl ?_ | refine go_aloadX_n (i := 0) (pc' := 5) dX14_recover_4 rfl rfl rfl ?_ | refine go_aload_nN (i := 0) (pc' := 5) dX14_recover_4 rfl rfl rfl ?_
  refine go_getfF (pc' := 8) dX14_recover_5 rfl gf_LandBaseModel_347 hM (by decide) hc ?_
  refine go_invV (As := [_]) (pc' := 11) dX14_recover_8 rfl cf_X14_recover_354 rfl hs rfl rfl (Nat.le_of_ble_eq_true rfl) (r_take0 rfl hs ho) (fun v1 h1 q1 => ?_)
  obtain ⟨rfl, hz, hs, f1⟩ := q1
  have hM := (f1 _ (by omega)).trans hM
  have hfr : ∀ b, (b ≠ 233 ∧ b ≠ 259) → h1.2 b = h1.2 b := fun _ _ => rfl
  first | refine go_aload_n (i := 0) (pc' := 12) dX14_recover_11 rfl rfl rfl ?_ | refine go_aloadX_n (i := 0) (pc' := 12) dX14_recover_11 rfl rfl rfl ?_ | refine go_aload_nN (i := 0) (pc' := 12) dX14_recover_11 rfl rfl rfl ?_
  refine go_iconst (v := 0) (pc' := 13) dX14_recover_12 rfl (by decide) ?_
  refine go_putfF (pc' := 16) dX14_recover_13 rfl pf_LandBaseModel_321 (fun h => by cases h) hM (by decide) rfl rfl (fun hp2 zp2 cp2 fp2 => ?_)
  have hz := zp2.trans hz
  have hs := (fp2 _ (by omega)).trans hs
  have hfr : ∀ b, (b ≠ 233 ∧ b ≠ 259) → hp2.2 b = h1.2 b := fun b hb => (fp2 b (by omega)).trans (hfr b hb)
  have hM := cp2
  first | refine go_aload_n (i := 0) (pc' := 17) dX14_recover_16 rfl rfl rfl ?_ | refine go_aloadX_n (i := 0) (pc' := 17) dX14_recover_16 rfl rfl rfl ?_ | refine go_aload_nN (i := 0) (pc' := 17) dX14_recover_16 rfl rfl rfl ?_
  refine go_iconst (v := 0) (pc' := 18) dX14_recover_17 rfl (by decide) ?_
  refine go_putfF (pc' := 21) dX14_recover_18 rfl pf_LandBaseModel_318 (fun h => by cases h) hM (by decide) rfl rfl (fun hp3 zp3 cp3 fp3 => ?_)
  have hz := zp3.trans hz
  have hs := (fp3 _ (by omega)).trans hs
  have hfr : ∀ b, (b ≠ 233 ∧ b ≠ 259) → hp3.2 b = h1.2 b := fun b hb => (fp3 b (by omega)).trans (hfr b hb)
  have hM := cp3
  first | refine go_aload_n (i := 0) (pc' := 22) dX14_recover_21 rfl rfl rfl ?_ | refine go_aloadX_n (i := 0) (pc' := 22) dX14_recover_21 rfl rfl rfl ?_ | refine go_aload_nN (i := 0) (pc' := 22) dX14_recover_21 rfl rfl rfl ?_
  refine go_iconst (v := 0) (pc' := 23) dX14_recover_22 rfl (by decide) ?_
  refine go_putfF (pc' := 26) dX14_recover_23 rfl pf_LandBaseModel_338 (fun h => by cases h) hM (by decide) rfl rfl (fun hp4 zp4 cp4 fp4 => ?_)
  have hz := zp4.trans hz
  have hs := (fp4 _ (by omega)).trans hs
  have hfr : ∀ b, (b ≠ 233 ∧ b ≠ 259) → hp4.2 b = h1.2 b := fun b hb => (fp4 b (by omega)).trans (hfr b hb)
  have hM := cp4
  first | refine go_aload_n (i := 0) (pc' := 27) dX14_recover_26 rfl rfl rfl ?_ | refine go_aloadX_n (i := 0) (pc' := 27) dX14_recover_26 rfl rfl rfl ?_ | refine go_aload_nN (i := 0) (pc' := 27) dX14_recover_26 rfl rfl rfl ?_
  refine go_iconst (v := (-1)) (pc' := 28) dX14_recover_27 rfl (by decide) ?_
  refine go_putfF (pc' := 31) dX14_recover_28 rfl pf_LandBaseModel_323 (fun h => by cases h) hM (by decide) rfl rfl (fun hp5 zp5 cp5 fp5 => ?_)
  have hz := zp5.trans hz
  have hs := (fp5 _ (by omega)).trans hs
  have hfr : ∀ b, (b ≠ 233 ∧ b ≠ 259) → hp5.2 b = h1.2 b := fun b hb => (fp5 b (by omega)).trans (hfr b hb)
  have hM := cp5
  first | refine go_aload_n (i := 0) (pc' := 32) dX14_recover_31 rfl rfl rfl ?_ | refine go_aloadX_n (i := 0) (pc' := 32) dX14_recover_31 rfl rfl rfl ?_ | refine go_aload_nN (i := 0) (pc' := 32) dX14_recover_31 rfl rfl rfl ?_
  refine go_getfF (pc' := 35) dX14_recover_32 rfl gf_LandBaseModel_351 hM (by decide) hl ?_
  refine go_getf (pc' := 38) dX14_recover_35 rfl gf_LandBaseModel_581 hs rfl ?_
  exact Go.ret (v := some (.int _)) dX14_recover_38 ⟨_, rfl⟩ ⟨rfl,rfl,hz,(fun b hb => (hfr b hb).trans (f1 b hb.2))⟩
set_option maxRecDepth 100000 in
theorem r_byteAt0 {G : xG} {h : xH} {F : Nat → Value} (hM : h.2 233 = some (.inr (13, mkF F 58))) (hs : F 40 = .int 0) : Ca G mX14_byteAt [.ref 233, .int 0] h (fun v h' => v = some (.int (-1)) ∧ h' = h) := by
  refine Ca.of rfl (Nat.le_of_ble_eq_true rfl) ?_
  refine go_iload_n (i := 1) (pc' := 1) dX14_byteAt_0 rfl rfl rfl ?_
  first | refine go_aload_n (i := 0) (pc' := 2) dX14_byteAt_1 rfl rfl rfl ?_ | refine go_aloadX_n (i := 0) (pc' := 2) dX14_byteAt_1 rfl rfl rfl ?_ | refine go_aload_nN (i := 0) (pc' := 2) dX14_byteAt_1 rfl rfl rfl ?_
  refine go_getfF (pc' := 5) dX14_byteAt_2 rfl gf_LandBaseModel_373 hM (by decide) hs ?_
  refine go_icmp_ge (pc' := 8) (tgt := 17) dX14_byteAt_5 (by decide) rfl (fun c1 => ?_) (fun c1 => ?_)
  · refine go_iconst (v := (-1)) (pc' := 18) dX14_byteAt_17 rfl (by decide) ?_
    exact Go.ret (v := some (.int _)) dX14_byteAt_18 ⟨_, rfl⟩ ⟨rfl,rfl,rfl⟩
  · exact absurd (by decide) c1
set_option maxRecDepth 100000 in
theorem r_next0 {G : xG} {h : xH} {F : Nat → Value} (hM : h.2 233 = some (.inr (13, mkF F 58))) (hs : F 40 = .int 0) (ha : F 41 = .int 0) : Ca G mX14_next [.ref 233] h (fun v h' => v = none ∧ h'.1 = h.1 ∧ (∃ F', h'.2 233 = some (.inr (13, mkF F' 58)) ∧ F' 45 = .int 0) ∧ ∀ b, b ≠ 233 → h'.2 b = h.2 b) := by
  refine Ca.of rfl (Nat.le_of_ble_eq_true rfl) ?_
  have hz : h.1 = h.1 := rfl
  first | refine go_aload_n (i := 0) (pc' := 1) dX14_next_0 rfl rfl rfl ?_ | refine go_aloadX_n (i := 0) (pc' := 1) dX14_next_0 rfl rfl rfl ?_ | refine go_aload_nN (i := 0) (pc' := 1) dX14_next_0 rfl rfl rfl ?_
  first | refine go_aload_n (i := 0) (pc' := 2) dX14_next_1 rfl rfl rfl ?_ | refine go_aloadX_n (i := 0) (pc' := 2) dX14_next_1 rfl rfl rfl ?_ | refine go_aload_nN (i := 0) (pc' := 2) dX14_next_1 rfl rfl rfl ?_
  refine go_getfF (pc' := 5) dX14_next_2 rfl gf_LandBaseModel_379 hM (by decide) ha ?_
  refine go_invV (As := [_]) (pc' := 8) dX14_next_5 rfl cf_X14_next_382 rfl hM rfl rfl (Nat.le_of_ble_eq_true rfl) (r_byteAt0 hM hs) (fun v1 h1 q1 => ?_)
  obtain ⟨rfl, rfl⟩ := q1
  refine go_bipush (v := 32) (pc' := 10) dX14_next_8 rfl (by decide) ?_
  refine go_icmp_eq (pc' := 13) (tgt := 26) dX14_next_10 (by decide) rfl (fun c1 => ?_) (fun c1 => ?_)
  · exact absurd c1 (by decide)
  · first | refine go_aload_n (i := 0) (pc' := 14) dX14_next_13 rfl rfl rfl ?_ | refine go_aloadX_n (i := 0) (pc' := 14) dX14_next_13 rfl rfl rfl ?_ | refine go_aload_nN (i := 0) (pc' := 14) dX14_next_13 rfl rfl rfl ?_
    first | refine go_aload_n (i := 0) (pc' := 15) dX14_next_14 rfl rfl rfl ?_ | refine go_aloadX_n (i := 0) (pc' := 15) dX14_next_14 rfl rfl rfl ?_ | refine go_aload_nN (i := 0) (pc' := 15) dX14_next_14 rfl rfl rfl ?_
    refine go_getfF (pc' := 18) dX14_next_15 rfl gf_LandBaseModel_379 hM (by decide) ha ?_
    refine go_invV (As := [_]) (pc' := 21) dX14_next_18 rfl cf_X14_next_382 rfl hM rfl rfl (Nat.le_of_ble_eq_true rfl) (r_byteAt0 hM hs) (fun v1 h2 q1 => ?_)
    obtain ⟨rfl, rfl⟩ := q1
    refine go_bipush (v := 10) (pc' := 23) dX14_next_21 rfl (by decide) ?_
    refine go_icmp_ne (pc' := 26) (tgt := 39) dX14_next_23 (by decide) rfl (fun c2 => ?_) (fun c2 => ?_)
    · have hfr : ∀ b, (b ≠ 233) → h2.2 b = h2.2 b := fun _ _ => rfl
      first | refine go_aload_n (i := 0) (pc' := 40) dX14_next_39 rfl rfl rfl ?_ | refine go_aloadX_n (i := 0) (pc' := 40) dX14_next_39 rfl rfl rfl ?_ | refine go_aload_nN (i := 0) (pc' := 40) dX14_next_39 rfl rfl rfl ?_
      first | refine go_aload_n (i := 0) (pc' := 41) dX14_next_40 rfl rfl rfl ?_ | refine go_aloadX_n (i := 0) (pc' := 41) dX14_next_40 rfl rfl rfl ?_ | refine go_aload_nN (i := 0) (pc' := 41) dX14_next_40 rfl rfl rfl ?_
      refine go_getfF (pc' := 44) dX14_next_41 rfl gf_LandBaseModel_379 hM (by decide) ha ?_
      refine go_putfF (pc' := 47) dX14_next_44 rfl pf_LandBaseModel_368 (fun h => by cases h) hM (by decide) rfl rfl (fun hp1 zp1 cp1 fp1 => ?_)
      have hz := zp1.trans hz
      have hfr : ∀ b, (b ≠ 233) → hp1.2 b = h2.2 b := fun b hb => (fp1 b (by omega)).trans (hfr b hb)
      have hM := cp1
      first | refine go_aload_n (i := 0) (pc' := 48) dX14_next_47 rfl rfl rfl ?_ | refine go_aloadX_n (i := 0) (pc' := 48) dX14_next_47 rfl rfl rfl ?_ | refine go_aload_nN (i := 0) (pc' := 48) dX14_next_47 rfl rfl rfl ?_
      first | refine go_aload_n (i := 0) (pc' := 49) dX14_next_48 rfl rfl rfl ?_ | refine go_aloadX_n (i := 0) (pc' := 49) dX14_next_48 rfl rfl rfl ?_ | refine go_aload_nN (i := 0) (pc' := 49) dX14_next_48 rfl rfl rfl ?_
      refine go_getfF (pc' := 52) dX14_next_49 rfl gf_LandBaseModel_379 hM (by decide) ha ?_
      refine go_invV (As := [_]) (pc' := 55) dX14_next_52 rfl cf_X14_next_382 rfl hM rfl rfl (Nat.le_of_ble_eq_true rfl) (r_byteAt0 hM hs) (fun v1 h3 q1 => ?_)
      obtain ⟨rfl, rfl⟩ := q1
      refine go_istore_n (i := 1) (pc' := 56) dX14_next_55 rfl rfl (by decide) rfl ?_
      refine go_iload_n (i := 1) (pc' := 57) dX14_next_56 rfl rfl rfl ?_
      refine go_if_ge (pc' := 60) (tgt := 68) dX14_next_57 (by decide) rfl (fun c3 => ?_) (fun c3 => ?_)
      · exact absurd c3 (by decide)
      · first | refine go_aload_n (i := 0) (pc' := 61) dX14_next_60 rfl rfl rfl ?_ | refine go_aloadX_n (i := 0) (pc' := 61) dX14_next_60 rfl rfl rfl ?_ | refine go_aload_nN (i := 0) (pc' := 61) dX14_next_60 rfl rfl rfl ?_
        refine go_iconst (v := 0) (pc' := 62) dX14_next_61 rfl (by decide) ?_
        refine go_putfF (pc' := 65) dX14_next_62 rfl pf_LandBaseModel_385 (fun h => by cases h) hM (by decide) rfl rfl (fun hp2 zp2 cp2 fp2 => ?_)
        have hz := zp2.trans hz
        have hfr : ∀ b, (b ≠ 233) → hp2.2 b = h2.2 b := fun b hb => (fp2 b (by omega)).trans (hfr b hb)
        have hM := cp2
        refine go_goto (pc' := 0) (tgt := 197) dX14_next_65 (by decide) ?_
        exact Go.ret (v := none) dX14_next_197 rfl ⟨trivial,rfl,hz,⟨_,hM,rfl⟩,hfr⟩
    · exact absurd c2 (by decide)
set_option maxRecDepth 100000 in
theorem r_run0 {G : xG} {h : xH} {F : Nat → Value} (hM : h.2 233 = some (.inr (13, mkF F 58))) (hd : F 33 = .int 0) (hs : F 40 = .int 0) : Ca G mX14_run [.ref 233] h (fun v h' => v = some (.int 0) ∧ h'.1 = h.1 ∧ ∀ b, b ≠ 233 → h'.2 b = h.2 b) := by
  refine Ca.of rfl (Nat.le_of_ble_eq_true rfl) ?_
  have hz : h.1 = h.1 := rfl
  first | refine go_aload_n (i := 0) (pc' := 1) dX14_run_0 rfl rfl rfl ?_ | refine go_aloadX_n (i := 0) (pc' := 1) dX14_run_0 rfl rfl rfl ?_ | refine go_aload_nN (i := 0) (pc' := 1) dX14_run_0 rfl rfl rfl ?_
  refine go_getfF (pc' := 4) dX14_run_1 rfl gf_LandBaseModel_318 hM (by decide) hd ?_
  refine go_if_eq (pc' := 7) (tgt := 9) dX14_run_4 (by decide) rfl (fun c1 => ?_) (fun c1 => ?_)
  · have hfr : ∀ b, (b ≠ 233) → h.2 b = h.2 b := fun _ _ => rfl
    first | refine go_aload_n (i := 0) (pc' := 10) dX14_run_9 rfl rfl rfl ?_ | refine go_aloadX_n (i := 0) (pc' := 10) dX14_run_9 rfl rfl rfl ?_ | refine go_aload_nN (i := 0) (pc' := 10) dX14_run_9 rfl rfl rfl ?_
    refine go_iconst (v := 0) (pc' := 11) dX14_run_10 rfl (by decide) ?_
    refine go_putfF (pc' := 14) dX14_run_11 rfl pf_LandBaseModel_362 (fun h => by cases h) hM (by decide) rfl rfl (fun hp1 zp1 cp1 fp1 => ?_)
    have hz := zp1.trans hz
    have hfr : ∀ b, (b ≠ 233) → hp1.2 b = h.2 b := fun b hb => (fp1 b (by omega)).trans (hfr b hb)
    have hM := cp1
    first | refine go_aload_n (i := 0) (pc' := 15) dX14_run_14 rfl rfl rfl ?_ | refine go_aloadX_n (i := 0) (pc' := 15) dX14_run_14 rfl rfl rfl ?_ | refine go_aload_nN (i := 0) (pc' := 15) dX14_run_14 rfl rfl rfl ?_
    refine go_iconst (v := (-1)) (pc' := 16) dX14_run_15 rfl (by decide) ?_
    refine go_putfF (pc' := 19) dX14_run_16 rfl pf_LandBaseModel_370 (fun h => by cases h) hM (by decide) rfl rfl (fun hp2 zp2 cp2 fp2 => ?_)
    have hz := zp2.trans hz
    have hfr : ∀ b, (b ≠ 233) → hp2.2 b = h.2 b := fun b hb => (fp2 b (by omega)).trans (hfr b hb)
    have hM := cp2
    first | refine go_aload_n (i := 0) (pc' := 20) dX14_run_19 rfl rfl rfl ?_ | refine go_aloadX_n (i := 0) (pc' := 20) dX14_run_19 rfl rfl rfl ?_ | refine go_aload_nN (i := 0) (pc' := 20) dX14_run_19 rfl rfl rfl ?_
    refine go_iconst (v := 0) (pc' := 21) dX14_run_20 rfl (by decide) ?_
    refine go_putfF (pc' := 24) dX14_run_21 rfl pf_LandBaseModel_365 (fun h => by cases h) hM (by decide) rfl rfl (fun hp3 zp3 cp3 fp3 => ?_)
    have hz := zp3.trans hz
    have hfr : ∀ b, (b ≠ 233) → hp3.2 b = h.2 b := fun b hb => (fp3 b (by omega)).trans (hfr b hb)
    have hM := cp3
    first | refine go_aload_n (i := 0) (pc' := 25) dX14_run_24 rfl rfl rfl ?_ | refine go_aloadX_n (i := 0) (pc' := 25) dX14_run_24 rfl rfl rfl ?_ | refine go_aload_nN (i := 0) (pc' := 25) dX14_run_24 rfl rfl rfl ?_
    refine go_iconst (v := 0) (pc' := 26) dX14_run_25 rfl (by decide) ?_
    refine go_putfF (pc' := 29) dX14_run_26 rfl pf_LandBaseModel_379 (fun h => by cases h) hM (by decide) rfl rfl (fun hp4 zp4 cp4 fp4 => ?_)
    have hz := zp4.trans hz
    have hfr : ∀ b, (b ≠ 233) → hp4.2 b = h.2 b := fun b hb => (fp4 b (by omega)).trans (hfr b hb)
    have hM := cp4
    refine go_iconst (v := 0) (pc' := 30) dX14_run_29 rfl (by decide) ?_
    refine go_istore_n (i := 1) (pc' := 31) dX14_run_30 rfl rfl (by decide) rfl ?_
    first | refine go_aload_n (i := 0) (pc' := 32) dX14_run_31 rfl rfl rfl ?_ | refine go_aloadX_n (i := 0) (pc' := 32) dX14_run_31 rfl rfl rfl ?_ | refine go_aload_nN (i := 0) (pc' := 32) dX14_run_31 rfl rfl rfl ?_
    refine go_invV (As := []) (pc' := 35) dX14_run_32 rfl cf_X14_run_423 rfl hM rfl rfl (Nat.le_of_ble_eq_true rfl) (r_next0 hM hs rfl) (fun v1 h1 q1 => ?_)
    obtain ⟨rfl, z1, ⟨F1, hM, ht⟩, f1⟩ := q1
    have hz := z1.trans hz
    have hfr0 := hfr
    first | refine go_aload_n (i := 0) (pc' := 36) dX14_run_35 rfl rfl rfl ?_ | refine go_aloadX_n (i := 0) (pc' := 36) dX14_run_35 rfl rfl rfl ?_ | refine go_aload_nN (i := 0) (pc' := 36) dX14_run_35 rfl rfl rfl ?_
    refine go_getfF (pc' := 39) dX14_run_36 rfl gf_LandBaseModel_385 hM (by decide) ht ?_
    refine go_if_eq (pc' := 42) (tgt := 85) dX14_run_39 (by decide) rfl (fun c2 => ?_) (fun c2 => ?_)
    · have hfr : ∀ b, (b ≠ 233) → h1.2 b = h1.2 b := fun _ _ => rfl
      first | refine go_aload_n (i := 0) (pc' := 86) dX14_run_85 rfl rfl rfl ?_ | refine go_aloadX_n (i := 0) (pc' := 86) dX14_run_85 rfl rfl rfl ?_ | refine go_aload_nN (i := 0) (pc' := 86) dX14_run_85 rfl rfl rfl ?_
      refine go_iconst (v := 0) (pc' := 87) dX14_run_86 rfl (by decide) ?_
      refine go_putfF (pc' := 90) dX14_run_87 rfl pf_LandBaseModel_373 (fun h => by cases h) hM (by decide) rfl rfl (fun hp31 zp31 cp31 fp31 => ?_)
      have hz := zp31.trans hz
      have hfr : ∀ b, (b ≠ 233) → hp31.2 b = h1.2 b := fun b hb => (fp31 b (by omega)).trans (hfr b hb)
      have hM := cp31
      refine go_iload_n (i := 1) (pc' := 91) dX14_run_90 rfl rfl rfl ?_
      exact Go.ret (v := some (.int _)) dX14_run_91 ⟨_, rfl⟩ ⟨rfl,rfl,hz,(fun b hb => (hfr b hb).trans ((f1 b hb).trans (hfr0 b hb)))⟩
    · exact absurd rfl c2
  · exact absurd rfl c1
end
section
/-! THE FIRST CALL on fresh objects: both answer alike -/
def I1 : Nat → xH → Prop
  | 0, h => h.1 = (2476, 103911) ∧ CIn h ∧ MIn h
  | _ + 1, h => Bd h ∧ ∃ fs, h.2 0 = some (.inr (9, fs))
theorem Pr_get {G : xG} {Mc Mr : xM} {As : List Value} {h : xH} {J : xH → Prop} {x : Int32} {F : Nat → Value} (hc : Ca G Mc (.ref 0 :: As) h (fun v h' => v = some (.int x) ∧ h' = h)) (hM : h.2 233 = some (.inr (13, mkF F 58))) (hr : Ca G Mr (.ref 233 :: As) h (fun v h' => v = some (.int x) ∧ h' = h)) (hJ : J h) : Pr G Mc Mr As J h := by
  refine hc.mono (fun v h1 e => ?_)
  obtain ⟨rfl, rfl⟩ := e
  refine ⟨x, F, rfl, hM, hr.mono (fun v2 h2 e2 => ?_)⟩
  obtain ⟨rfl, rfl⟩ := e2
  exact ⟨rfl, hJ⟩
theorem I1_keep : ∀ n h, I1 n h → I1 (n + 1) h := by
  intro n h hI
  cases n with
  | succ n => exact hI
  | zero =>
    obtain ⟨hz, hC, hM⟩ := hI
    exact ⟨⟨by rw [hz]; decide, by rw [hz]; decide⟩, _, hC.1⟩
theorem I1_bd : ∀ n h, I1 n h → Bd h ∧ ∃ fs, h.2 0 = some (.inr (9, fs)) := fun n h hI => I1_keep n h hI
theorem bd_of {h : xH} (hz : h.1 = (2476, 103911)) : Bd h := ⟨by rw [hz]; decide, by rw [hz]; decide⟩
set_option maxRecDepth 100000 in
theorem ow_fresh {G : xG} : Ow G (I1 0) (I1 1) := by
  refine ⟨?_, ?_, ?_, ?_, ?_, ?_, ?_, ?_, ?_, ?_, ?_, ?_, ?_, ?_, ?_, ?_, ?_, ?_, ?_, ?_, ?_⟩
  · intro h hI a b c d e
    obtain ⟨hz, hC, hMI⟩ := hI
    obtain ⟨k0, ⟨k1, k2⟩, -, ⟨k10, k11, k12, k13, k14, k15, k16, k17⟩, -, -, -, k231, k232⟩ := hC
    obtain ⟨⟨F, hM, hMC, hMF⟩, -, ⟨-, -, -, -, -, -, ⟨g1, ⟨s1, s2⟩, -⟩, ⟨g2, ⟨s3, s4⟩, -⟩⟩, ⟨m63, m64, -⟩, -⟩ := hMI
    obtain ⟨-, -, -, -, -, -, -, -, -, -, -, -, -, F30, F31, F39, F43, -⟩ := hMC
    obtain ⟨F32, F33, F34, F35, F36, F37, F38, F40, F41, F42, F44, -⟩ := hMF
    have hJ : I1 1 h := ⟨bd_of hz, _, k0⟩
    have hSh : ∀ i, Ca G mX10_shapeOf [.ref 0, .int i] h (fun v h' => v = some .null ∧ h' = h) := fun i => (c_shapeOf (n := 0) (by omega) k0 k10 k11 k12 k13).mono (fun v h' e => by
      obtain ⟨rfl, rfl⟩ := e
      exact ⟨rfl, rfl⟩)
    have hSt : ∀ i, Ca G mX14_standing [.ref 233, .int i] h (fun v h' => v = some (.int (-1)) ∧ h' = h) := fun i => r_standing0 hM F33 F30 s1
    refine (c_feed (ts := 0) (by omega) k0 k1 k2).mono (fun v h1 e1 => ?_)
    rcases e1 with ⟨hl, -⟩ | ⟨-, rfl, z1, -, -, f1⟩
    · exact absurd hl (by omega)
    · have hM1 := (f1 233 (by omega)).trans hM
      have m63' := (f1 1863 (by omega)).trans m63
      have k0' := (f1 0 (by omega)).trans k0
      refine ⟨_, F, rfl, hM1, (r_feed (ts := 0) (by omega) hM1 F40 F39 m63').mono (fun v2 h2 e2 => ?_)⟩
      rcases e2 with ⟨hl, -⟩ | ⟨-, rfl, z2, -, -, f2⟩
      · exact absurd hl (by omega)
      · exact ⟨rfl, bd_of (z2.trans (z1.trans hz)), _, (f2 0 (by omega)).trans k0'⟩
  · intro h hI a
    obtain ⟨hz, hC, hMI⟩ := hI
    obtain ⟨k0, ⟨k1, k2⟩, -, ⟨k10, k11, k12, k13, k14, k15, k16, k17⟩, -, -, -, k231, k232⟩ := hC
    obtain ⟨⟨F, hM, hMC, hMF⟩, -, ⟨-, -, -, -, -, -, ⟨g1, ⟨s1, s2⟩, -⟩, ⟨g2, ⟨s3, s4⟩, -⟩⟩, ⟨m63, m64, -⟩, -⟩ := hMI
    obtain ⟨-, -, -, -, -, -, -, -, -, -, -, -, -, F30, F31, F39, F43, -⟩ := hMC
    obtain ⟨F32, F33, F34, F35, F36, F37, F38, F40, F41, F42, F44, -⟩ := hMF
    have hJ : I1 1 h := ⟨bd_of hz, _, k0⟩
    have hSh : ∀ i, Ca G mX10_shapeOf [.ref 0, .int i] h (fun v h' => v = some .null ∧ h' = h) := fun i => (c_shapeOf (n := 0) (by omega) k0 k10 k11 k12 k13).mono (fun v h' e => by
      obtain ⟨rfl, rfl⟩ := e
      exact ⟨rfl, rfl⟩)
    have hSt : ∀ i, Ca G mX14_standing [.ref 233, .int i] h (fun v h' => v = some (.int (-1)) ∧ h' = h) := fun i => r_standing0 hM F33 F30 s1
    refine (c_end (ts := 0) k0 k1).mono (fun v h1 e1 => ?_)
    rcases e1 with ⟨hl, rfl, rfl⟩ | ⟨hl, rfl, z1, -, f1⟩
    · refine ⟨_, F, rfl, hM, (r_end (ts := 0) hM F40).mono (fun v2 h2 e2 => ?_)⟩
      rcases e2 with ⟨-, rfl, rfl⟩ | ⟨q, -⟩
      · exact ⟨rfl, hJ⟩
      · exact absurd q hl
    · have hM1 := (f1 233 (by omega)).trans hM
      have k0' := (f1 0 (by omega)).trans k0
      refine ⟨_, F, rfl, hM1, (r_end (ts := 0) hM1 F40).mono (fun v2 h2 e2 => ?_)⟩
      rcases e2 with ⟨q, -⟩ | ⟨-, rfl, z2, -, f2⟩
      · exact absurd hl q
      · exact ⟨rfl, bd_of (z2.trans (z1.trans hz)), _, (f2 0 (by omega)).trans k0'⟩
  · intro h hI
    obtain ⟨hz, hC, hMI⟩ := hI
    obtain ⟨k0, ⟨k1, k2⟩, -, ⟨k10, k11, k12, k13, k14, k15, k16, k17⟩, -, -, -, k231, k232⟩ := hC
    obtain ⟨⟨F, hM, hMC, hMF⟩, -, ⟨-, -, -, -, -, -, ⟨g1, ⟨s1, s2⟩, -⟩, ⟨g2, ⟨s3, s4⟩, -⟩⟩, ⟨m63, m64, -⟩, -⟩ := hMI
    obtain ⟨-, -, -, -, -, -, -, -, -, -, -, -, -, F30, F31, F39, F43, -⟩ := hMC
    obtain ⟨F32, F33, F34, F35, F36, F37, F38, F40, F41, F42, F44, -⟩ := hMF
    have hJ : I1 1 h := ⟨bd_of hz, _, k0⟩
    have hSh : ∀ i, Ca G mX10_shapeOf [.ref 0, .int i] h (fun v h' => v = some .null ∧ h' = h) := fun i => (c_shapeOf (n := 0) (by omega) k0 k10 k11 k12 k13).mono (fun v h' e => by
      obtain ⟨rfl, rfl⟩ := e
      exact ⟨rfl, rfl⟩)
    have hSt : ∀ i, Ca G mX14_standing [.ref 233, .int i] h (fun v h' => v = some (.int (-1)) ∧ h' = h) := fun i => r_standing0 hM F33 F30 s1
    refine (c_run0 k0 k10 k1).mono (fun v h1 e1 => ?_)
    obtain ⟨rfl, z1, ⟨fs, k0'⟩, f1⟩ := e1
    have hM1 := (f1 233 (by omega)).trans hM
    refine ⟨_, F, rfl, hM1, (r_run0 hM1 F33 F40).mono (fun v2 h2 e2 => ?_)⟩
    obtain ⟨rfl, z2, f2⟩ := e2
    exact ⟨rfl, bd_of (z2.trans (z1.trans hz)), _, (f2 0 (by omega)).trans k0'⟩
  · intro h hI
    obtain ⟨hz, hC, hMI⟩ := hI
    obtain ⟨k0, ⟨k1, k2⟩, -, ⟨k10, k11, k12, k13, k14, k15, k16, k17⟩, -, -, -, k231, k232⟩ := hC
    obtain ⟨⟨F, hM, hMC, hMF⟩, -, ⟨-, -, -, -, -, -, ⟨g1, ⟨s1, s2⟩, -⟩, ⟨g2, ⟨s3, s4⟩, -⟩⟩, ⟨m63, m64, -⟩, -⟩ := hMI
    obtain ⟨-, -, -, -, -, -, -, -, -, -, -, -, -, F30, F31, F39, F43, -⟩ := hMC
    obtain ⟨F32, F33, F34, F35, F36, F37, F38, F40, F41, F42, F44, -⟩ := hMF
    have hJ : I1 1 h := ⟨bd_of hz, _, k0⟩
    have hSh : ∀ i, Ca G mX10_shapeOf [.ref 0, .int i] h (fun v h' => v = some .null ∧ h' = h) := fun i => (c_shapeOf (n := 0) (by omega) k0 k10 k11 k12 k13).mono (fun v h' e => by
      obtain ⟨rfl, rfl⟩ := e
      exact ⟨rfl, rfl⟩)
    have hSt : ∀ i, Ca G mX14_standing [.ref 233, .int i] h (fun v h' => v = some (.int (-1)) ∧ h' = h) := fun i => r_standing0 hM F33 F30 s1
    exact Pr_get (c_wrong k0) hM (r_wrong hM F42) hJ
  · intro h hI
    obtain ⟨hz, hC, hMI⟩ := hI
    obtain ⟨k0, ⟨k1, k2⟩, -, ⟨k10, k11, k12, k13, k14, k15, k16, k17⟩, -, -, -, k231, k232⟩ := hC
    obtain ⟨⟨F, hM, hMC, hMF⟩, -, ⟨-, -, -, -, -, -, ⟨g1, ⟨s1, s2⟩, -⟩, ⟨g2, ⟨s3, s4⟩, -⟩⟩, ⟨m63, m64, -⟩, -⟩ := hMI
    obtain ⟨-, -, -, -, -, -, -, -, -, -, -, -, -, F30, F31, F39, F43, -⟩ := hMC
    obtain ⟨F32, F33, F34, F35, F36, F37, F38, F40, F41, F42, F44, -⟩ := hMF
    have hJ : I1 1 h := ⟨bd_of hz, _, k0⟩
    have hSh : ∀ i, Ca G mX10_shapeOf [.ref 0, .int i] h (fun v h' => v = some .null ∧ h' = h) := fun i => (c_shapeOf (n := 0) (by omega) k0 k10 k11 k12 k13).mono (fun v h' e => by
      obtain ⟨rfl, rfl⟩ := e
      exact ⟨rfl, rfl⟩)
    have hSt : ∀ i, Ca G mX14_standing [.ref 233, .int i] h (fun v h' => v = some (.int (-1)) ∧ h' = h) := fun i => r_standing0 hM F33 F30 s1
    exact Pr_get (c_outputs k0) hM (r_outputs hM F44) hJ
  · intro h hI a
    obtain ⟨hz, hC, hMI⟩ := hI
    obtain ⟨k0, ⟨k1, k2⟩, -, ⟨k10, k11, k12, k13, k14, k15, k16, k17⟩, -, -, -, k231, k232⟩ := hC
    obtain ⟨⟨F, hM, hMC, hMF⟩, -, ⟨-, -, -, -, -, -, ⟨g1, ⟨s1, s2⟩, -⟩, ⟨g2, ⟨s3, s4⟩, -⟩⟩, ⟨m63, m64, -⟩, -⟩ := hMI
    obtain ⟨-, -, -, -, -, -, -, -, -, -, -, -, -, F30, F31, F39, F43, -⟩ := hMC
    obtain ⟨F32, F33, F34, F35, F36, F37, F38, F40, F41, F42, F44, -⟩ := hMF
    have hJ : I1 1 h := ⟨bd_of hz, _, k0⟩
    have hSh : ∀ i, Ca G mX10_shapeOf [.ref 0, .int i] h (fun v h' => v = some .null ∧ h' = h) := fun i => (c_shapeOf (n := 0) (by omega) k0 k10 k11 k12 k13).mono (fun v h' e => by
      obtain ⟨rfl, rfl⟩ := e
      exact ⟨rfl, rfl⟩)
    have hSt : ∀ i, Ca G mX14_standing [.ref 233, .int i] h (fun v h' => v = some (.int (-1)) ∧ h' = h) := fun i => r_standing0 hM F33 F30 s1
    exact Pr_get (c_out (n := 0) (by omega) k0 k232) hM (r_out (n := 0) (by omega) hM F44 F43 m64) hJ
  · intro h hI a b c
    obtain ⟨hz, hC, hMI⟩ := hI
    obtain ⟨k0, ⟨k1, k2⟩, -, ⟨k10, k11, k12, k13, k14, k15, k16, k17⟩, -, -, -, k231, k232⟩ := hC
    obtain ⟨⟨F, hM, hMC, hMF⟩, -, ⟨-, -, -, -, -, -, ⟨g1, ⟨s1, s2⟩, -⟩, ⟨g2, ⟨s3, s4⟩, -⟩⟩, ⟨m63, m64, -⟩, -⟩ := hMI
    obtain ⟨-, -, -, -, -, -, -, -, -, -, -, -, -, F30, F31, F39, F43, -⟩ := hMC
    obtain ⟨F32, F33, F34, F35, F36, F37, F38, F40, F41, F42, F44, -⟩ := hMF
    have hJ : I1 1 h := ⟨bd_of hz, _, k0⟩
    have hSh : ∀ i, Ca G mX10_shapeOf [.ref 0, .int i] h (fun v h' => v = some .null ∧ h' = h) := fun i => (c_shapeOf (n := 0) (by omega) k0 k10 k11 k12 k13).mono (fun v h' e => by
      obtain ⟨rfl, rfl⟩ := e
      exact ⟨rfl, rfl⟩)
    have hSt : ∀ i, Ca G mX14_standing [.ref 233, .int i] h (fun v h' => v = some (.int (-1)) ∧ h' = h) := fun i => r_standing0 hM F33 F30 s1
    refine (c_crash k0 k10).mono (fun v h1 e1 => ?_)
    rcases e1 with ⟨hl, rfl, rfl⟩ | ⟨hl, rfl, z1, -, f1⟩
    · refine ⟨_, F, rfl, hM, (r_crash hM F33).mono (fun v2 h2 e2 => ?_)⟩
      rcases e2 with ⟨-, rfl, rfl⟩ | ⟨q, -⟩
      · exact ⟨rfl, hJ⟩
      · exact absurd q hl
    · have hM1 := (f1 233 (by omega)).trans hM
      have k0' := (f1 0 (by omega)).trans k0
      refine ⟨_, F, rfl, hM1, (r_crash hM1 F33).mono (fun v2 h2 e2 => ?_)⟩
      rcases e2 with ⟨q, -⟩ | ⟨-, rfl, z2, -, f2⟩
      · exact absurd hl q
      · exact ⟨rfl, bd_of (z2.trans (z1.trans hz)), _, (f2 0 (by omega)).trans k0'⟩
  · intro h hI
    obtain ⟨hz, hC, hMI⟩ := hI
    obtain ⟨k0, ⟨k1, k2⟩, -, ⟨k10, k11, k12, k13, k14, k15, k16, k17⟩, -, -, -, k231, k232⟩ := hC
    obtain ⟨⟨F, hM, hMC, hMF⟩, -, ⟨-, -, -, -, -, -, ⟨g1, ⟨s1, s2⟩, -⟩, ⟨g2, ⟨s3, s4⟩, -⟩⟩, ⟨m63, m64, -⟩, -⟩ := hMI
    obtain ⟨-, -, -, -, -, -, -, -, -, -, -, -, -, F30, F31, F39, F43, -⟩ := hMC
    obtain ⟨F32, F33, F34, F35, F36, F37, F38, F40, F41, F42, F44, -⟩ := hMF
    have hJ : I1 1 h := ⟨bd_of hz, _, k0⟩
    have hSh : ∀ i, Ca G mX10_shapeOf [.ref 0, .int i] h (fun v h' => v = some .null ∧ h' = h) := fun i => (c_shapeOf (n := 0) (by omega) k0 k10 k11 k12 k13).mono (fun v h' e => by
      obtain ⟨rfl, rfl⟩ := e
      exact ⟨rfl, rfl⟩)
    have hSt : ∀ i, Ca G mX14_standing [.ref 233, .int i] h (fun v h' => v = some (.int (-1)) ∧ h' = h) := fun i => r_standing0 hM F33 F30 s1
    refine (c_recover0 rfl k0 k10 k11 k14).mono (fun v h1 e1 => ?_)
    obtain ⟨rfl, z1, f1⟩ := e1
    have hM1 := (f1 233 (by omega)).trans hM
    have s1' := (f1 259 (by omega)).trans s1
    have s3' := (f1 1061 (by omega)).trans s3
    have k0' := (f1 0 (by omega)).trans k0
    refine ⟨_, F, rfl, hM1, (r_recover0 hM1 F30 F31 s1' s3').mono (fun v2 h2 e2 => ?_)⟩
    obtain ⟨rfl, z2, f2⟩ := e2
    exact ⟨rfl, bd_of (z2.trans (z1.trans hz)), _, (f2 0 (by omega)).trans k0'⟩
  · intro h hI
    obtain ⟨hz, hC, hMI⟩ := hI
    obtain ⟨k0, ⟨k1, k2⟩, -, ⟨k10, k11, k12, k13, k14, k15, k16, k17⟩, -, -, -, k231, k232⟩ := hC
    obtain ⟨⟨F, hM, hMC, hMF⟩, -, ⟨-, -, -, -, -, -, ⟨g1, ⟨s1, s2⟩, -⟩, ⟨g2, ⟨s3, s4⟩, -⟩⟩, ⟨m63, m64, -⟩, -⟩ := hMI
    obtain ⟨-, -, -, -, -, -, -, -, -, -, -, -, -, F30, F31, F39, F43, -⟩ := hMC
    obtain ⟨F32, F33, F34, F35, F36, F37, F38, F40, F41, F42, F44, -⟩ := hMF
    have hJ : I1 1 h := ⟨bd_of hz, _, k0⟩
    have hSh : ∀ i, Ca G mX10_shapeOf [.ref 0, .int i] h (fun v h' => v = some .null ∧ h' = h) := fun i => (c_shapeOf (n := 0) (by omega) k0 k10 k11 k12 k13).mono (fun v h' e => by
      obtain ⟨rfl, rfl⟩ := e
      exact ⟨rfl, rfl⟩)
    have hSt : ∀ i, Ca G mX14_standing [.ref 233, .int i] h (fun v h' => v = some (.int (-1)) ∧ h' = h) := fun i => r_standing0 hM F33 F30 s1
    exact Pr_get (c_isDown (Or.inl rfl) k0 k10) hM (r_isDown (Or.inl rfl) hM F33) hJ
  · intro h hI
    obtain ⟨hz, hC, hMI⟩ := hI
    obtain ⟨k0, ⟨k1, k2⟩, -, ⟨k10, k11, k12, k13, k14, k15, k16, k17⟩, -, -, -, k231, k232⟩ := hC
    obtain ⟨⟨F, hM, hMC, hMF⟩, -, ⟨-, -, -, -, -, -, ⟨g1, ⟨s1, s2⟩, -⟩, ⟨g2, ⟨s3, s4⟩, -⟩⟩, ⟨m63, m64, -⟩, -⟩ := hMI
    obtain ⟨-, -, -, -, -, -, -, -, -, -, -, -, -, F30, F31, F39, F43, -⟩ := hMC
    obtain ⟨F32, F33, F34, F35, F36, F37, F38, F40, F41, F42, F44, -⟩ := hMF
    have hJ : I1 1 h := ⟨bd_of hz, _, k0⟩
    have hSh : ∀ i, Ca G mX10_shapeOf [.ref 0, .int i] h (fun v h' => v = some .null ∧ h' = h) := fun i => (c_shapeOf (n := 0) (by omega) k0 k10 k11 k12 k13).mono (fun v h' e => by
      obtain ⟨rfl, rfl⟩ := e
      exact ⟨rfl, rfl⟩)
    have hSt : ∀ i, Ca G mX14_standing [.ref 233, .int i] h (fun v h' => v = some (.int (-1)) ∧ h' = h) := fun i => r_standing0 hM F33 F30 s1
    exact Pr_get (c_isOpen k0 k10) hM (r_isOpen (Or.inl rfl) hM F32) hJ
  · intro h hI
    obtain ⟨hz, hC, hMI⟩ := hI
    obtain ⟨k0, ⟨k1, k2⟩, -, ⟨k10, k11, k12, k13, k14, k15, k16, k17⟩, -, -, -, k231, k232⟩ := hC
    obtain ⟨⟨F, hM, hMC, hMF⟩, -, ⟨-, -, -, -, -, -, ⟨g1, ⟨s1, s2⟩, -⟩, ⟨g2, ⟨s3, s4⟩, -⟩⟩, ⟨m63, m64, -⟩, -⟩ := hMI
    obtain ⟨-, -, -, -, -, -, -, -, -, -, -, -, -, F30, F31, F39, F43, -⟩ := hMC
    obtain ⟨F32, F33, F34, F35, F36, F37, F38, F40, F41, F42, F44, -⟩ := hMF
    have hJ : I1 1 h := ⟨bd_of hz, _, k0⟩
    have hSh : ∀ i, Ca G mX10_shapeOf [.ref 0, .int i] h (fun v h' => v = some .null ∧ h' = h) := fun i => (c_shapeOf (n := 0) (by omega) k0 k10 k11 k12 k13).mono (fun v h' e => by
      obtain ⟨rfl, rfl⟩ := e
      exact ⟨rfl, rfl⟩)
    have hSt : ∀ i, Ca G mX14_standing [.ref 233, .int i] h (fun v h' => v = some (.int (-1)) ∧ h' = h) := fun i => r_standing0 hM F33 F30 s1
    exact Pr_get (c_live k0 k10 k11) hM (r_live hM F33 F30 s1) hJ
  · intro h hI a
    obtain ⟨hz, hC, hMI⟩ := hI
    obtain ⟨k0, ⟨k1, k2⟩, -, ⟨k10, k11, k12, k13, k14, k15, k16, k17⟩, -, -, -, k231, k232⟩ := hC
    obtain ⟨⟨F, hM, hMC, hMF⟩, -, ⟨-, -, -, -, -, -, ⟨g1, ⟨s1, s2⟩, -⟩, ⟨g2, ⟨s3, s4⟩, -⟩⟩, ⟨m63, m64, -⟩, -⟩ := hMI
    obtain ⟨-, -, -, -, -, -, -, -, -, -, -, -, -, F30, F31, F39, F43, -⟩ := hMC
    obtain ⟨F32, F33, F34, F35, F36, F37, F38, F40, F41, F42, F44, -⟩ := hMF
    have hJ : I1 1 h := ⟨bd_of hz, _, k0⟩
    have hSh : ∀ i, Ca G mX10_shapeOf [.ref 0, .int i] h (fun v h' => v = some .null ∧ h' = h) := fun i => (c_shapeOf (n := 0) (by omega) k0 k10 k11 k12 k13).mono (fun v h' e => by
      obtain ⟨rfl, rfl⟩ := e
      exact ⟨rfl, rfl⟩)
    have hSt : ∀ i, Ca G mX14_standing [.ref 233, .int i] h (fun v h' => v = some (.int (-1)) ∧ h' = h) := fun i => r_standing0 hM F33 F30 s1
    have e : idV 0 (fun _ => 0) 0 a = -1 := by
      unfold idV
      rw [if_pos]
      by_cases c : a < 0
      · exact Or.inr (Or.inl c)
      · exact Or.inr (Or.inr (Int32.not_lt.mp c))
    exact Pr_get (e ▸ c_idAt (n := 0) (by omega) k0 k10 k11 k12) hM (r_idAt0 hM F33 F30 s1) hJ
  · intro h hI a
    obtain ⟨hz, hC, hMI⟩ := hI
    obtain ⟨k0, ⟨k1, k2⟩, -, ⟨k10, k11, k12, k13, k14, k15, k16, k17⟩, -, -, -, k231, k232⟩ := hC
    obtain ⟨⟨F, hM, hMC, hMF⟩, -, ⟨-, -, -, -, -, -, ⟨g1, ⟨s1, s2⟩, -⟩, ⟨g2, ⟨s3, s4⟩, -⟩⟩, ⟨m63, m64, -⟩, -⟩ := hMI
    obtain ⟨-, -, -, -, -, -, -, -, -, -, -, -, -, F30, F31, F39, F43, -⟩ := hMC
    obtain ⟨F32, F33, F34, F35, F36, F37, F38, F40, F41, F42, F44, -⟩ := hMF
    have hJ : I1 1 h := ⟨bd_of hz, _, k0⟩
    have hSh : ∀ i, Ca G mX10_shapeOf [.ref 0, .int i] h (fun v h' => v = some .null ∧ h' = h) := fun i => (c_shapeOf (n := 0) (by omega) k0 k10 k11 k12 k13).mono (fun v h' e => by
      obtain ⟨rfl, rfl⟩ := e
      exact ⟨rfl, rfl⟩)
    have hSt : ∀ i, Ca G mX14_standing [.ref 233, .int i] h (fun v h' => v = some (.int (-1)) ∧ h' = h) := fun i => r_standing0 hM F33 F30 s1
    exact Pr_get (c_kindOf (n := 0) (g := fun _ => 0) (by omega) k0 k10 k11 k12 k13 (fun i a hi => absurd hi (by omega))) hM (r_kindOf0 hM (hSt _)) hJ
  · intro h hI a
    obtain ⟨hz, hC, hMI⟩ := hI
    obtain ⟨k0, ⟨k1, k2⟩, -, ⟨k10, k11, k12, k13, k14, k15, k16, k17⟩, -, -, -, k231, k232⟩ := hC
    obtain ⟨⟨F, hM, hMC, hMF⟩, -, ⟨-, -, -, -, -, -, ⟨g1, ⟨s1, s2⟩, -⟩, ⟨g2, ⟨s3, s4⟩, -⟩⟩, ⟨m63, m64, -⟩, -⟩ := hMI
    obtain ⟨-, -, -, -, -, -, -, -, -, -, -, -, -, F30, F31, F39, F43, -⟩ := hMC
    obtain ⟨F32, F33, F34, F35, F36, F37, F38, F40, F41, F42, F44, -⟩ := hMF
    have hJ : I1 1 h := ⟨bd_of hz, _, k0⟩
    have hSh : ∀ i, Ca G mX10_shapeOf [.ref 0, .int i] h (fun v h' => v = some .null ∧ h' = h) := fun i => (c_shapeOf (n := 0) (by omega) k0 k10 k11 k12 k13).mono (fun v h' e => by
      obtain ⟨rfl, rfl⟩ := e
      exact ⟨rfl, rfl⟩)
    have hSt : ∀ i, Ca G mX14_standing [.ref 233, .int i] h (fun v h' => v = some (.int (-1)) ∧ h' = h) := fun i => r_standing0 hM F33 F30 s1
    exact Pr_get (c_places (n := 0) (g := fun _ => 0) (by omega) k0 k10 k11 k12 k13 (fun i a hi => absurd hi (by omega))) hM (r_places0 hM (hSt _)) hJ
  · intro h hI a
    obtain ⟨hz, hC, hMI⟩ := hI
    obtain ⟨k0, ⟨k1, k2⟩, -, ⟨k10, k11, k12, k13, k14, k15, k16, k17⟩, -, -, -, k231, k232⟩ := hC
    obtain ⟨⟨F, hM, hMC, hMF⟩, -, ⟨-, -, -, -, -, -, ⟨g1, ⟨s1, s2⟩, -⟩, ⟨g2, ⟨s3, s4⟩, -⟩⟩, ⟨m63, m64, -⟩, -⟩ := hMI
    obtain ⟨-, -, -, -, -, -, -, -, -, -, -, -, -, F30, F31, F39, F43, -⟩ := hMC
    obtain ⟨F32, F33, F34, F35, F36, F37, F38, F40, F41, F42, F44, -⟩ := hMF
    have hJ : I1 1 h := ⟨bd_of hz, _, k0⟩
    have hSh : ∀ i, Ca G mX10_shapeOf [.ref 0, .int i] h (fun v h' => v = some .null ∧ h' = h) := fun i => (c_shapeOf (n := 0) (by omega) k0 k10 k11 k12 k13).mono (fun v h' e => by
      obtain ⟨rfl, rfl⟩ := e
      exact ⟨rfl, rfl⟩)
    have hSt : ∀ i, Ca G mX14_standing [.ref 233, .int i] h (fun v h' => v = some (.int (-1)) ∧ h' = h) := fun i => r_standing0 hM F33 F30 s1
    exact Pr_get (c_rings (n := 0) (g := fun _ => 0) (by omega) k0 k10 k11 k12 k13 (fun i a hi => absurd hi (by omega))) hM (r_rings0 hM (hSt _)) hJ
  · intro h hI a b c
    obtain ⟨hz, hC, hMI⟩ := hI
    obtain ⟨k0, ⟨k1, k2⟩, -, ⟨k10, k11, k12, k13, k14, k15, k16, k17⟩, -, -, -, k231, k232⟩ := hC
    obtain ⟨⟨F, hM, hMC, hMF⟩, -, ⟨-, -, -, -, -, -, ⟨g1, ⟨s1, s2⟩, -⟩, ⟨g2, ⟨s3, s4⟩, -⟩⟩, ⟨m63, m64, -⟩, -⟩ := hMI
    obtain ⟨-, -, -, -, -, -, -, -, -, -, -, -, -, F30, F31, F39, F43, -⟩ := hMC
    obtain ⟨F32, F33, F34, F35, F36, F37, F38, F40, F41, F42, F44, -⟩ := hMF
    have hJ : I1 1 h := ⟨bd_of hz, _, k0⟩
    have hSh : ∀ i, Ca G mX10_shapeOf [.ref 0, .int i] h (fun v h' => v = some .null ∧ h' = h) := fun i => (c_shapeOf (n := 0) (by omega) k0 k10 k11 k12 k13).mono (fun v h' e => by
      obtain ⟨rfl, rfl⟩ := e
      exact ⟨rfl, rfl⟩)
    have hSt : ∀ i, Ca G mX14_standing [.ref 233, .int i] h (fun v h' => v = some (.int (-1)) ∧ h' = h) := fun i => r_standing0 hM F33 F30 s1
    exact Pr_get (c_at0 (hSh _) k0) hM (r_at0 hM (hSt _)) hJ
  · intro h hI a b c
    obtain ⟨hz, hC, hMI⟩ := hI
    obtain ⟨k0, ⟨k1, k2⟩, -, ⟨k10, k11, k12, k13, k14, k15, k16, k17⟩, -, -, -, k231, k232⟩ := hC
    obtain ⟨⟨F, hM, hMC, hMF⟩, -, ⟨-, -, -, -, -, -, ⟨g1, ⟨s1, s2⟩, -⟩, ⟨g2, ⟨s3, s4⟩, -⟩⟩, ⟨m63, m64, -⟩, -⟩ := hMI
    obtain ⟨-, -, -, -, -, -, -, -, -, -, -, -, -, F30, F31, F39, F43, -⟩ := hMC
    obtain ⟨F32, F33, F34, F35, F36, F37, F38, F40, F41, F42, F44, -⟩ := hMF
    have hJ : I1 1 h := ⟨bd_of hz, _, k0⟩
    have hSh : ∀ i, Ca G mX10_shapeOf [.ref 0, .int i] h (fun v h' => v = some .null ∧ h' = h) := fun i => (c_shapeOf (n := 0) (by omega) k0 k10 k11 k12 k13).mono (fun v h' e => by
      obtain ⟨rfl, rfl⟩ := e
      exact ⟨rfl, rfl⟩)
    have hSt : ∀ i, Ca G mX14_standing [.ref 233, .int i] h (fun v h' => v = some (.int (-1)) ∧ h' = h) := fun i => r_standing0 hM F33 F30 s1
    exact Pr_get (c_relate0 hSh k0) hM (r_relate0 hM hSt) hJ
  · intro h hI a b c d
    obtain ⟨hz, hC, hMI⟩ := hI
    obtain ⟨k0, ⟨k1, k2⟩, -, ⟨k10, k11, k12, k13, k14, k15, k16, k17⟩, -, -, -, k231, k232⟩ := hC
    obtain ⟨⟨F, hM, hMC, hMF⟩, -, ⟨-, -, -, -, -, -, ⟨g1, ⟨s1, s2⟩, -⟩, ⟨g2, ⟨s3, s4⟩, -⟩⟩, ⟨m63, m64, -⟩, -⟩ := hMI
    obtain ⟨-, -, -, -, -, -, -, -, -, -, -, -, -, F30, F31, F39, F43, -⟩ := hMC
    obtain ⟨F32, F33, F34, F35, F36, F37, F38, F40, F41, F42, F44, -⟩ := hMF
    have hJ : I1 1 h := ⟨bd_of hz, _, k0⟩
    have hSh : ∀ i, Ca G mX10_shapeOf [.ref 0, .int i] h (fun v h' => v = some .null ∧ h' = h) := fun i => (c_shapeOf (n := 0) (by omega) k0 k10 k11 k12 k13).mono (fun v h' e => by
      obtain ⟨rfl, rfl⟩ := e
      exact ⟨rfl, rfl⟩)
    have hSt : ∀ i, Ca G mX14_standing [.ref 233, .int i] h (fun v h' => v = some (.int (-1)) ∧ h' = h) := fun i => r_standing0 hM F33 F30 s1
    exact Pr_get (c_nearer0 hSh k0) hM (r_nearer0 hM hSt) hJ
  · intro h hI
    obtain ⟨hz, hC, hMI⟩ := hI
    obtain ⟨k0, ⟨k1, k2⟩, -, ⟨k10, k11, k12, k13, k14, k15, k16, k17⟩, -, -, -, k231, k232⟩ := hC
    obtain ⟨⟨F, hM, hMC, hMF⟩, -, ⟨-, -, -, -, -, -, ⟨g1, ⟨s1, s2⟩, -⟩, ⟨g2, ⟨s3, s4⟩, -⟩⟩, ⟨m63, m64, -⟩, -⟩ := hMI
    obtain ⟨-, -, -, -, -, -, -, -, -, -, -, -, -, F30, F31, F39, F43, -⟩ := hMC
    obtain ⟨F32, F33, F34, F35, F36, F37, F38, F40, F41, F42, F44, -⟩ := hMF
    have hJ : I1 1 h := ⟨bd_of hz, _, k0⟩
    have hSh : ∀ i, Ca G mX10_shapeOf [.ref 0, .int i] h (fun v h' => v = some .null ∧ h' = h) := fun i => (c_shapeOf (n := 0) (by omega) k0 k10 k11 k12 k13).mono (fun v h' e => by
      obtain ⟨rfl, rfl⟩ := e
      exact ⟨rfl, rfl⟩)
    have hSt : ∀ i, Ca G mX14_standing [.ref 233, .int i] h (fun v h' => v = some (.int (-1)) ∧ h' = h) := fun i => r_standing0 hM F33 F30 s1
    exact Pr_get (c_used k0 k10) hM (r_used hM F33 F35) hJ
  · intro h hI
    obtain ⟨hz, hC, hMI⟩ := hI
    obtain ⟨k0, ⟨k1, k2⟩, -, ⟨k10, k11, k12, k13, k14, k15, k16, k17⟩, -, -, -, k231, k232⟩ := hC
    obtain ⟨⟨F, hM, hMC, hMF⟩, -, ⟨-, -, -, -, -, -, ⟨g1, ⟨s1, s2⟩, -⟩, ⟨g2, ⟨s3, s4⟩, -⟩⟩, ⟨m63, m64, -⟩, -⟩ := hMI
    obtain ⟨-, -, -, -, -, -, -, -, -, -, -, -, -, F30, F31, F39, F43, -⟩ := hMC
    obtain ⟨F32, F33, F34, F35, F36, F37, F38, F40, F41, F42, F44, -⟩ := hMF
    have hJ : I1 1 h := ⟨bd_of hz, _, k0⟩
    have hSh : ∀ i, Ca G mX10_shapeOf [.ref 0, .int i] h (fun v h' => v = some .null ∧ h' = h) := fun i => (c_shapeOf (n := 0) (by omega) k0 k10 k11 k12 k13).mono (fun v h' e => by
      obtain ⟨rfl, rfl⟩ := e
      exact ⟨rfl, rfl⟩)
    have hSt : ∀ i, Ca G mX14_standing [.ref 233, .int i] h (fun v h' => v = some (.int (-1)) ∧ h' = h) := fun i => r_standing0 hM F33 F30 s1
    exact Pr_get (c_saves k0 k10) hM (r_saves hM F36) hJ
  · intro h hI
    obtain ⟨hz, hC, hMI⟩ := hI
    obtain ⟨k0, ⟨k1, k2⟩, -, ⟨k10, k11, k12, k13, k14, k15, k16, k17⟩, -, -, -, k231, k232⟩ := hC
    obtain ⟨⟨F, hM, hMC, hMF⟩, -, ⟨-, -, -, -, -, -, ⟨g1, ⟨s1, s2⟩, -⟩, ⟨g2, ⟨s3, s4⟩, -⟩⟩, ⟨m63, m64, -⟩, -⟩ := hMI
    obtain ⟨-, -, -, -, -, -, -, -, -, -, -, -, -, F30, F31, F39, F43, -⟩ := hMC
    obtain ⟨F32, F33, F34, F35, F36, F37, F38, F40, F41, F42, F44, -⟩ := hMF
    have hJ : I1 1 h := ⟨bd_of hz, _, k0⟩
    have hSh : ∀ i, Ca G mX10_shapeOf [.ref 0, .int i] h (fun v h' => v = some .null ∧ h' = h) := fun i => (c_shapeOf (n := 0) (by omega) k0 k10 k11 k12 k13).mono (fun v h' e => by
      obtain ⟨rfl, rfl⟩ := e
      exact ⟨rfl, rfl⟩)
    have hSt : ∀ i, Ca G mX14_standing [.ref 233, .int i] h (fun v h' => v = some (.int (-1)) ∧ h' = h) := fun i => r_standing0 hM F33 F30 s1
    exact Pr_get (c_flaws0 rfl k0 k10 k11 k14) hM r_flaws hJ
/-- from the entry, for a script of at most 11 ints -/
theorem p1_go (G : xG) (hN : gN G ≤ 11) : Go G mL_law 0 [some (.retAddr 99), none, none, none] [] ((0, 0), fun _ => none) (fun v h' => v = some (.int 1) ∧ Bd h') :=
  law_all (I := I1) (by omega) (fun h a b c => ⟨a, b, c⟩) I1_bd I1_keep (fun n hn => by
    have e : n = 0 := by omega
    subst e
    exact ow_fresh)
end
section
theorem whole_start {p : Program} {e : Env} {s : State} {m : MethodId} {below : List Frame} {meth : Method} {c : Code} (l : Launch) {b L : Nat} {xs : Nat → Int32} (hL : L ≤ 11) (C0 : lw_At p s m meth c b L xs) : W p l e room_1 s m #[Value.ref b] below meth c s.heap [] 0 0 (lw_Z below #[Value.ref b] s) (entryFrame m ([Value.ref b] : List Value).toArray 4) :=
  start_W l C0 (fun G hg => p1_go G (by rw [hg]; exact hL))
-- ===== YOUR PART ENDS =====
set_option maxHeartbeats 4000000 in
theorem lw_walk (l : Launch) (b : Addr) (xs : List Int32) : MetFree l x (headSpec (Jvm.Cond.code x code maxLocals ret :: tables_1) room_1) (lw_P b xs) (fun _ _ _ _ _ => True) lw_Q := by
  refine MetFree.of_bodyS (code := code) (maxLocals := maxLocals) (ret := ret) (by decide) ?_ ?_
  · intro args s m h hn
    obtain ⟨meth, c, h1, h2, h3, h4, h5, h6, -, -⟩ := Cond.code_spec hn (atoms_spec (ws := Jvm.Cond.code x code maxLocals ret :: tables_1) h _ List.mem_cons_self)
    exact ⟨meth, c, h1, h2, h3, h4, h5, h6⟩
  · intro p e s m args below meth c s₁ B hml0 hP _
    obtain ⟨rfl, hx, hbd, hgv⟩ := hP
    obtain ⟨scr, harrAt, hlist, hof, hsmall⟩ := hx
    obtain ⟨hcb, hkn, -, -⟩ := State.arrayAt?_spec harrAt
    have hown : s.vm.findClass R_law = some m.cls := findClass_of_methodNamed B.named
    have hts0 : ∀ c ∈ (Jvm.Cond.code x code maxLocals ret :: tables_1), c.before #[Value.ref b] s = true := atoms_spec (ws := Jvm.Cond.code x code maxLocals ret :: tables_1) B.pre
    have hts : ∀ w ∈ lw_tbl, w.before #[Value.ref b] s = true := k2_hts_sels lw_privs (fun w hw => hts0 w (List.mem_cons_of_mem _ hw)) lw_privs_ok
    have hml : c.maxLocals = 4 := B.maxLocals_eq (hts0 _ List.mem_cons_self)
    have X₀ : Stand p l e room_1 s m #[Value.ref b] below meth c s₁ [] 0 0 := Stand.of_body B
    have hh0 : s₁.heap = s.heap := by rw [B.state]; rfl
    have hsz : scr.slots.size = xs.length := by rw [← Array.length_toList, hlist, List.length_map]
    have hval : ∀ j : Nat, j < xs.length → scr.slots[j]? = some (.int (xs.getD j 0)) := fun j hj => by
      rw [← Array.getElem?_toList, hlist]
      simp [hj]
    have hbl : b < s.heap.size := (Array.getElem?_eq_some_iff.mp hcb).1
    have hX : va_X b xs.length (fun j => xs.getD j 0) s s.heap := ⟨scr, hcb, hof, hkn, hsz, hval⟩
    have K : W p l e room_1 s m #[Value.ref b] below meth c s₁.heap [] 0 0 (lw_Z below #[Value.ref b] s) (entryFrame m ([Value.ref b] : List Value).toArray 4) := by
      rw [hh0]
      exact whole_start l hbd ⟨B.exec, B.bytes, B.returns, hml, hown, hts, hX, hbl, B.notSynchronized, hgv⟩
    obtain ⟨t, a1, o, b1, b2, b3⟩ := K s₁ rfl X₀
    exact ⟨t, o, a1, b1, b2, b3⟩
theorem lw_pre_spec {args : Array Value} {s : State} (h : (Jvm.Cond.and given_1 narrow_1).before args s = true) (hr : rest_1_c.before args s = true) : ∃ (b : Addr) (xs : List Int32), lw_P b xs args s := by
  have hs := flat_of_before _ h
  have hq := flat_of_before _ hr
  have hc : (Cond.count 1).before args s = true := hs _ (by decide +kernel)
  have harr : (Cond.arrayOf (.arg 0) .int).before args s = true := hs _ (by decide +kernel)
  have hle : (Cond.le (.length (.arg 0)) (.int 11)).before args s = true := hs _ (by decide +kernel)
  have hlen : (Cond.isInt (.length (.arg 0))).before args s = true := hq _ (by decide +kernel)
  have hall : (Cond.all (.arg 0) (.isInt (.elem (.arg 0) (.index 0)))).before args s = true := hq _ (by decide +kernel)
  obtain ⟨b, xs, hb, hx⟩ := State.ints_of_pre rfl harr hlen hall
  have hsm : xs.length < 2 ^ 31 := hx.choose_spec.2.2.2
  have hev : (Term.length (.arg 0)).eval args s none [] s = some (.int xs.length.toInt32) := hx.length_eval hb
  have hv := Cond.le_ints hev (show (Term.int 11).eval args s none [] s = some (.int 11) from rfl)
  have hd : xs.length.toInt32 ≤ 11 := by
    simpa [Cond.before, Cond.holds, hv] using hle
  have hN : xs.length ≤ 11 := (Int32.ofNat_le_ofNat hsm (by decide)).mp (show Int32.ofNat xs.length ≤ Int32.ofNat 11 from hd)
  exact ⟨b, xs, Cond.one_arg hc (show args[0]? = some (.ref b) from hb), hx, hN, h⟩
theorem lw_comes (l : Launch) : Comes l x (Jvm.Cond.code x code maxLocals ret :: tables_1) room_1 (fun tb e args s => Calls_1 tb e args s ∧ rest_1 tb e args s ∧ Pre_1 tb e args s)
    (fun _ _ args s o t => lw_Q args s o t) := by
  intro p e ha hc hk s m args below hf hfit hheap happ hpre
  obtain ⟨b, xs, hP⟩ := lw_pre_spec hpre.2.2 hpre.2.1
  obtain ⟨k, o, h1, h2, h3, hQ⟩ := lw_walk l b xs p e ha hc hk s m args below hf ((Spec.applies_iff_loose hf).mp happ).1 hP trivial
  exact ⟨k, o, h1, h2, h3, hQ⟩
theorem lw_frame {s t : State} {o : Outcome} {args : Array Value} (h : Framed s o t [] 600000 7302250) :
    Framed s o t (fieldLocs frame_1_writes args s ++ arrayLocs frame_1_arrays args s ++ staticLocs frame_1_statics s) 600000 7302250 := h
theorem lw_limb (L : Cond) (hL : ∀ (args : Array Value) (s t : State), L.after args s (.returned (some (.int 1))) t = true) :
    ArmFor flags0 classFile x code maxLocals ret World_1 tables_1 room_1 Calls_1 rest_1 Pre_1
      (fun tb e a s o t => postC L tb e a s o t ∧ Framed s o t (fieldLocs frame_1_writes a s ++ arrayLocs frame_1_arrays a s ++ staticLocs frame_1_statics s) 600000 7302250) := by
  intro l _ _ _ p e ha hc hk s m args below hf hfit hheap happ hpre
  obtain ⟨k, o, h1, h2, h3, rfl, hF⟩ := lw_comes l p e ha hc hk s m args below hf hfit hheap happ hpre
  exact ⟨k, _, h1, h2, h3, hL args s _, lw_frame hF⟩
theorem i_vc : Claimed_1_1 ∧ Claimed_1_2 := ⟨lw_limb limb_1_1 (fun args s t => by simp [limb_1_1, Cond.after, Cond.holds, Cond.value]), lw_limb limb_1_2 (fun args s t => Cond.after_iff.mpr (by
  first | (rw [show limb_1_2 = Cond.eq .result (.int 1) from rfl, Cond.eq_ints (x := 1) (y := 1) rfl rfl]; simp; done) | (simp [limb_1_2, Cond.value, Term.eval]; done)))⟩
end
